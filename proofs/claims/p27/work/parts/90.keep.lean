/-! what the calls keep -/
def KO (o : Nat) (I0 I : IMem) : Prop := (∀ j, 76 ≤ j → I (o + 1) j = I0 (o + 1) j) ∧ I (o + 1) 70 = I0 (o + 1) 70
theorem ko_rfl {o : Nat} {I : IMem} : KO o I I := ⟨fun _ _ => rfl, rfl⟩
theorem sat_and {x : Res} {Q1 Q2 : Int → IMem → Prop} (h1 : sat x Q1) (h2 : sat x Q2) : sat x (fun v I => Q1 v I ∧ Q2 v I) := by
  obtain ⟨v, I, e, q⟩ := h1
  obtain ⟨v2, I2, e2, q2⟩ := h2
  rw [e] at e2
  cases e2
  exact ⟨v, I, e, q, q2⟩
/-- an answer 0 or 1, by a condition -/
def AN (C : Prop) (v : Int) : Prop := (v = 0 ∨ v = 1) ∧ (v = 1 ↔ C)
theorem an_eq {C : Prop} {v w : Int} (h : AN C v) (h2 : AN C w) : v = w := by
  obtain ⟨a, b⟩ := h
  obtain ⟨c, d⟩ := h2
  by_cases q : C
  · rw [b.2 q, d.2 q]
  · rcases a with a | a
    · rcases c with c | c
      · omega
      · exact absurd (d.1 c) q
    · exact absurd (b.1 a) q
theorem an_1 {C : Prop} (h : C) : AN C 1 := ⟨Or.inr rfl, ⟨fun _ => h, fun _ => rfl⟩⟩
theorem an_0 {C : Prop} (h : ¬ C) : AN C 0 := ⟨Or.inl rfl, ⟨fun q => absurd q (by decide), fun q => absurd q h⟩⟩
def CSeen (a1 a2 : Int) : Prop := 0 ≤ a1 ∧ a1 ≤ 5 ∧ 1 ≤ a2 ∧ a2 ≤ 24
def CParts (a1 a2 : Int) : Prop := 2 ≤ a1 ∧ a1 ≤ 8 ∧ 0 ≤ a2 ∧ a2 < a1
def CComer (a1 a2 a3 a4 a5 : Int) : Prop := 0 ≤ a1 ∧ a1 ≤ 7 ∧ 1 ≤ a2 ∧ a2 ≤ 8 ∧ 1 ≤ a3 ∧ a3 ≤ a2 ∧ 0 ≤ a4 ∧ a4 ≤ 3 ∧ 0 ≤ a5 ∧ a5 ≤ 1000
theorem kp_X_seen (fu : Nat) (o0 : Nat) (a1 : Int) (a2 : Int) (I0 : IMem) (hfu : 5000000000 < fu) (hRI0 : GX o0 I0) (qa1 : inr a1) (qa2 : inr a2) : sat (f_X_seen fu o0 a1 a2 I0) (fun v I => inr v ∧ GX o0 I ∧ KO o0 I0 I ∧ AN (CSeen a1 a2) v) := by
  unfold f_X_seen
  obtain ⟨aa1, ba1⟩ := qa1
  obtain ⟨aa2, ba2⟩ := qa2
  refine sat_zb (ok_X_isLine fu a1 I0 hfu hRI0.1 ⟨aa1, ba1⟩) (fun y1 I2 c_1 ⟨⟨ay1, by1⟩, _, pI2⟩ => ?_)
  have eI2 := pI2.1.symm; replace pI2 := pI2.2; subst eI2
  refine sat_ite (fun q_2 => ?_) (fun q_2 => ?_)
  · exact sat_zr ⟨(lit_in rfl), hRI0, ko_rfl, an_0 (by unfold CSeen; omega)⟩
  · refine sat_zb (ok_X_isIn fu a2 1 24 I0 hfu hRI0.1 ⟨aa2, ba2⟩ (lit_in rfl) (lit_in rfl)) (fun y4 I5 c_3 ⟨⟨ay4, by4⟩, _, pI5⟩ => ?_)
    have eI5 := pI5.1.symm; replace pI5 := pI5.2; subst eI5
    refine sat_ite (fun q_4 => ?_) (fun q_4 => ?_)
    · exact sat_zr ⟨(lit_in rfl), hRI0, ko_rfl, an_0 (by unfold CSeen; omega)⟩
    · refine sat_zl (wr32_in _) (fun x8 hx8 ax8 bx8 => ?_)
      try simp (disch := omega) only [wr32_i2, wdiv_i2, wrem_i2] at hx8
      refine sat_zg (by first | omega | grind | grind [wr32]) (fun g_5 => ?_)
      refine sat_zwX1 hRI0 ⟨aa2, ba2⟩ (cw_10 (by first | omega | (simp (disch := omega) only [wr32_i2, wdiv_i2, wrem_i2]; omega) | grind)) (fun I7 eI7 hRI7 => ?_)
      exact sat_zr ⟨(lit_in rfl), hRI7, ⟨fun j hj => by rw [eI7, if_neg (by omega)], by rw [eI7, if_neg (by omega)]⟩, an_1 (by unfold CSeen; omega)⟩
theorem kp_X_parts (fu : Nat) (o0 : Nat) (a1 : Int) (a2 : Int) (I0 : IMem) (hfu : 5000000000 < fu) (hRI0 : GX o0 I0) (qa1 : inr a1) (qa2 : inr a2) : sat (f_X_parts fu o0 a1 a2 I0) (fun v I => inr v ∧ GX o0 I ∧ KO o0 I0 I ∧ AN (CParts a1 a2) v) := by
  unfold f_X_parts
  obtain ⟨aa1, ba1⟩ := qa1
  obtain ⟨aa2, ba2⟩ := qa2
  refine sat_zb (ok_X_isIn fu a1 2 8 I0 hfu hRI0.1 ⟨aa1, ba1⟩ (lit_in rfl) (lit_in rfl)) (fun y1 I2 c_1 ⟨⟨ay1, by1⟩, _, pI2⟩ => ?_)
  have eI2 := pI2.1.symm; replace pI2 := pI2.2; subst eI2
  refine sat_ite (fun q_2 => ?_) (fun q_2 => ?_)
  · exact sat_zr ⟨(lit_in rfl), hRI0, ko_rfl, an_0 (by unfold CParts; omega)⟩
  · refine sat_zb (ok_X_isIn fu a2 0 (wr32 (a1 - 1)) I0 hfu hRI0.1 ⟨aa2, ba2⟩ (lit_in rfl) (wr32_in _)) (fun y4 I5 c_3 ⟨⟨ay4, by4⟩, _, pI5⟩ => ?_)
    have eI5 := pI5.1.symm; replace pI5 := pI5.2; subst eI5
    try simp (disch := omega) only [wr32_i2, wdiv_i2, wrem_i2] at pI5
    refine sat_ite (fun q_4 => ?_) (fun q_4 => ?_)
    · exact sat_zr ⟨(lit_in rfl), hRI0, ko_rfl, an_0 (by unfold CParts; omega)⟩
    · refine sat_zl (wr32_in _) (fun x8 hx8 ax8 bx8 => ?_)
      try simp (disch := omega) only [wr32_i2, wdiv_i2, wrem_i2] at hx8
      refine sat_zg (by first | omega | grind | grind [wr32]) (fun g_5 => ?_)
      refine sat_zwX1 hRI0 ⟨aa2, ba2⟩ (cw_17 (by first | omega | (simp (disch := omega) only [wr32_i2, wdiv_i2, wrem_i2]; omega) | grind)) (fun I7 eI7 hRI7 => ?_)
      exact sat_zr ⟨(lit_in rfl), hRI7, ⟨fun j hj => by rw [eI7, if_neg (by omega)], by rw [eI7, if_neg (by omega)]⟩, an_1 (by unfold CParts; omega)⟩
theorem kp_X_isGroup (fu : Nat) (a0 : Int) (a1 : Int) (a2 : Int) (I0 : IMem) (hfu : 5000000000 < fu) (hRI0 : RG I0) (qa0 : inr a0) (qa1 : inr a1) (qa2 : inr a2) : sat (f_X_isGroup fu a0 a1 a2 I0) (fun v I => inr v ∧ RG I ∧ (I = I0 ∧ ((v = 0 ∨ v = 1) ∧ (v = 1 ↔ (1 ≤ a0 ∧ a0 ≤ 8 ∧ 1 ≤ a1 ∧ a1 ≤ a0 ∧ 0 ≤ a2 ∧ a2 ≤ 3))))) := by
  unfold f_X_isGroup
  obtain ⟨aa0, ba0⟩ := qa0
  obtain ⟨aa1, ba1⟩ := qa1
  obtain ⟨aa2, ba2⟩ := qa2
  refine sat_zb (ok_X_isIn fu a0 1 8 I0 hfu hRI0 ⟨aa0, ba0⟩ (lit_in rfl) (lit_in rfl)) (fun y1 I2 c_1 ⟨⟨ay1, by1⟩, _, pI2⟩ => ?_)
  have eI2 := pI2.1.symm; replace pI2 := pI2.2; subst eI2
  refine sat_ite (fun q_2 => ?_) (fun q_2 => ?_)
  · exact sat_zr ⟨(lit_in rfl), hRI0, ⟨rfl, (by first | omega | (simp (disch := omega) only [wr32_i2, wdiv_i2, wrem_i2]; omega) | grind | grind [wr32])⟩⟩
  · refine sat_zb (ok_X_isIn fu a1 1 a0 I0 hfu hRI0 ⟨aa1, ba1⟩ (lit_in rfl) ⟨aa0, ba0⟩) (fun y4 I5 c_3 ⟨⟨ay4, by4⟩, _, pI5⟩ => ?_)
    have eI5 := pI5.1.symm; replace pI5 := pI5.2; subst eI5
    refine sat_ite (fun q_4 => ?_) (fun q_4 => ?_)
    · exact sat_zr ⟨(lit_in rfl), hRI0, ⟨rfl, (by first | omega | (simp (disch := omega) only [wr32_i2, wdiv_i2, wrem_i2]; omega) | grind | grind [wr32])⟩⟩
    · refine sat_zb (ok_X_isIn fu a2 0 3 I0 hfu hRI0 ⟨aa2, ba2⟩ (lit_in rfl) (lit_in rfl)) (fun y7 I8 c_5 ⟨⟨ay7, by7⟩, _, pI8⟩ => ?_)
      have eI8 := pI8.1.symm; replace pI8 := pI8.2; subst eI8
      refine sat_ite (fun q_6 => ?_) (fun q_6 => ?_)
      · exact sat_zr ⟨(lit_in rfl), hRI0, ⟨rfl, (by first | omega | (simp (disch := omega) only [wr32_i2, wdiv_i2, wrem_i2]; omega) | grind | grind [wr32])⟩⟩
      · exact sat_zr ⟨(lit_in rfl), hRI0, ⟨rfl, (by first | omega | (simp (disch := omega) only [wr32_i2, wdiv_i2, wrem_i2]; omega) | grind | grind [wr32])⟩⟩
theorem kp_X_comer (fu : Nat) (o0 : Nat) (a1 : Int) (a2 : Int) (a3 : Int) (a4 : Int) (a5 : Int) (I0 : IMem) (hfu : 5000000000 < fu) (hRI0 : GX o0 I0) (qa1 : inr a1) (qa2 : inr a2) (qa3 : inr a3) (qa4 : inr a4) (qa5 : inr a5) : sat (f_X_comer fu o0 a1 a2 a3 a4 a5 I0) (fun v I => inr v ∧ GX o0 I ∧ KO o0 I0 I ∧ AN (CComer a1 a2 a3 a4 a5) v) := by
  unfold f_X_comer
  obtain ⟨aa1, ba1⟩ := qa1
  obtain ⟨aa2, ba2⟩ := qa2
  obtain ⟨aa3, ba3⟩ := qa3
  obtain ⟨aa4, ba4⟩ := qa4
  obtain ⟨aa5, ba5⟩ := qa5
  refine sat_zb (ok_X_isIn fu a1 0 7 I0 hfu hRI0.1 ⟨aa1, ba1⟩ (lit_in rfl) (lit_in rfl)) (fun y1 I2 c_1 ⟨⟨ay1, by1⟩, _, pI2⟩ => ?_)
  have eI2 := pI2.1.symm; replace pI2 := pI2.2; subst eI2
  refine sat_ite (fun q_2 => ?_) (fun q_2 => ?_)
  · exact sat_zr ⟨(lit_in rfl), hRI0, ko_rfl, an_0 (by unfold CComer; omega)⟩
  · refine sat_zb (kp_X_isGroup fu a2 a3 a4 I0 hfu hRI0.1 ⟨aa2, ba2⟩ ⟨aa3, ba3⟩ ⟨aa4, ba4⟩) (fun y4 I5 c_3 ⟨⟨ay4, by4⟩, _, pI5⟩ => ?_)
    have eI5 := pI5.1.symm; replace pI5 := pI5.2; subst eI5
    refine sat_ite (fun q_4 => ?_) (fun q_4 => ?_)
    · exact sat_zr ⟨(lit_in rfl), hRI0, ko_rfl, an_0 (by unfold CComer; omega)⟩
    · refine sat_zb (ok_X_isIn fu a5 0 1000 I0 hfu hRI0.1 ⟨aa5, ba5⟩ (lit_in rfl) (lit_in rfl)) (fun y7 I8 c_5 ⟨⟨ay7, by7⟩, _, pI8⟩ => ?_)
      have eI8 := pI8.1.symm; replace pI8 := pI8.2; subst eI8
      refine sat_ite (fun q_6 => ?_) (fun q_6 => ?_)
      · exact sat_zr ⟨(lit_in rfl), hRI0, ko_rfl, an_0 (by unfold CComer; omega)⟩
      · refine sat_zl (wr32_in _) (fun x11 hx11 ax11 bx11 => ?_)
        try simp (disch := omega) only [wr32_i2, wdiv_i2, wrem_i2] at hx11
        refine sat_zg (by first | omega | grind | grind [wr32]) (fun g_7 => ?_)
        refine sat_zwX1 hRI0 ⟨aa2, ba2⟩ (cw_26 (by first | omega | (simp (disch := omega) only [wr32_i2, wdiv_i2, wrem_i2]; omega) | grind)) (fun I10 eI10 hRI10 => ?_)
        refine sat_zl (wr32_in _) (fun x13 hx13 ax13 bx13 => ?_)
        try simp (disch := omega) only [wr32_i2, wdiv_i2, wrem_i2] at hx13
        refine sat_zg (by first | omega | grind | grind [wr32]) (fun g_8 => ?_)
        refine sat_zwX1 hRI10 ⟨aa3, ba3⟩ (cw_26 (by first | omega | (simp (disch := omega) only [wr32_i2, wdiv_i2, wrem_i2]; omega) | grind)) (fun I12 eI12 hRI12 => ?_)
        refine sat_zl (wr32_in _) (fun x15 hx15 ax15 bx15 => ?_)
        try simp (disch := omega) only [wr32_i2, wdiv_i2, wrem_i2] at hx15
        refine sat_zg (by first | omega | grind | grind [wr32]) (fun g_9 => ?_)
        refine sat_zwX1 hRI12 ⟨aa4, ba4⟩ (cw_26 (by first | omega | (simp (disch := omega) only [wr32_i2, wdiv_i2, wrem_i2]; omega) | grind)) (fun I14 eI14 hRI14 => ?_)
        refine sat_zl (wr32_in _) (fun x17 hx17 ax17 bx17 => ?_)
        try simp (disch := omega) only [wr32_i2, wdiv_i2, wrem_i2] at hx17
        refine sat_zg (by first | omega | grind | grind [wr32]) (fun g_10 => ?_)
        refine sat_zwX1 hRI14 ⟨aa5, ba5⟩ (cw_26 ⟨by omega, by omega, Or.inr (Or.inr (Or.inr ⟨by omega, by grind⟩))⟩) (fun I16 eI16 hRI16 => ?_)
        exact sat_zr ⟨(lit_in rfl), hRI16, ⟨fun j hj => by rw [eI16, if_neg (by omega), eI14, if_neg (by omega), eI12, if_neg (by omega), eI10, if_neg (by omega)], by rw [eI16, if_neg (by omega), eI14, if_neg (by omega), eI12, if_neg (by omega), eI10, if_neg (by omega)]⟩, an_1 (by unfold CComer; omega)⟩
theorem kp_X_look (fu : Nat) (o0 : Nat) (a1 : Int) (I0 : IMem) (hfu : 5000000000 < fu) (hRI0 : GX o0 I0) (qa1 : inr a1) : sat (f_X_look fu o0 a1 I0) (fun v I => inr v ∧ GX o0 I ∧ KO o0 I0 I) := by
  unfold f_X_look
  obtain ⟨aa1, ba1⟩ := qa1
  refine sat_zb (ok_X_isLine fu a1 I0 hfu hRI0.1 ⟨aa1, ba1⟩) (fun y1 I2 c_1 ⟨⟨ay1, by1⟩, _, pI2⟩ => ?_)
  have eI2 := pI2.1.symm; replace pI2 := pI2.2; subst eI2
  refine sat_ite (fun q_2 => ?_) (fun q_2 => ?_)
  · exact sat_zr ⟨(lit_in rfl), hRI0, ko_rfl⟩
  · refine sat_zl (wr32_in _) (fun x4 hx4 ax4 bx4 => ?_)
    try simp (disch := omega) only [wr32_i2, wdiv_i2, wrem_i2] at hx4
    refine sat_zg (by first | omega | grind | grind [wr32]) (fun g_3 => ?_)
    have ⟨r_4a, r_4b⟩ : -2147483648 ≤ I0 (o0 + 1) x4.toNat ∧ I0 (o0 + 1) x4.toNat < 2147483648 := hRI0.1 (o0 + 1) x4.toNat
    try have r_4many := gx_many hRI0 x4.toNat (by omega) (by omega)
    try have r_4seen := gx_seen hRI0 x4.toNat (by omega) (by omega)
    try have r_4part := gx_part hRI0 x4.toNat (by omega) (by omega)
    try have r_4rows := gx_rows hRI0 x4.toNat (by omega) (by omega) (by omega)
    refine sat_ite (fun q_5 => ?_) (fun q_5 => ?_)
    · exact sat_zr ⟨(lit_in rfl), hRI0, ko_rfl⟩
    · refine sat_zb (ok_X_best fu o0 0 I0 hfu hRI0 (lit_in rfl)) (fun y5 I6 c_6 ⟨⟨ay5, by5⟩, hRI6, pI6⟩ => ?_)
      have fI6 : ∀ q j, ¬ (q = o0 + 16 ∨ q = o0 + 17 ∨ (q = o0 ∧ j = 40)) → I6 q j = I0 q j := fc_X_best (fun q j => q = o0 + 16 ∨ q = o0 + 17 ∨ (q = o0 ∧ j = 40)) fu o0 0 I0 (fun _ => by simp) (fun _ => by simp) (by simp) c_6
      refine sat_zl (wr32_in _) (fun x8 hx8 ax8 bx8 => ?_)
      try simp (disch := omega) only [wr32_i2, wdiv_i2, wrem_i2] at hx8
      have h68 : I6 (o0 + 1) x8.toNat = I0 (o0 + 1) x4.toNat := by rw [show x8 = x4 by omega]; exact fI6 _ _ (by omega)
      have hsn := gx_seen hRI0 x4.toNat (by omega) (by omega)
      refine sat_zg (by first | omega | grind | grind [wr32]) (fun g_7 => ?_)
      refine sat_zg (by first | omega | grind | grind [wr32]) (fun g_8 => ?_)
      have ⟨r_9a, r_9b⟩ : -2147483648 ≤ I6 (o0 + 1) x8.toNat ∧ I6 (o0 + 1) x8.toNat < 2147483648 := hRI6.1 (o0 + 1) x8.toNat
      try have r_9many := gx_many hRI6 x8.toNat (by omega) (by omega)
      try have r_9seen := gx_seen hRI6 x8.toNat (by omega) (by omega)
      try have r_9part := gx_part hRI6 x8.toNat (by omega) (by omega)
      try have r_9rows := gx_rows hRI6 x8.toNat (by omega) (by omega) (by omega)
      refine sat_zwX1 hRI6 (wr32_in _) (cw_10 (by rw [h68, wr32_i2 (by omega) (by omega)]; omega)) (fun I9 eI9 hRI9 => ?_)
      refine sat_zb (ok_X_best fu o0 0 I9 hfu hRI9 (lit_in rfl)) (fun y10 I11 c_10 ⟨⟨ay10, by10⟩, hRI11, pI11⟩ => ?_)
      have fI11 : ∀ q j, ¬ (q = o0 + 16 ∨ q = o0 + 17 ∨ (q = o0 ∧ j = 40)) → I11 q j = I9 q j := fc_X_best (fun q j => q = o0 + 16 ∨ q = o0 + 17 ∨ (q = o0 ∧ j = 40)) fu o0 0 I9 (fun _ => by simp) (fun _ => by simp) (by simp) c_10
      refine sat_zl (wr32_in _) (fun x13 hx13 ax13 bx13 => ?_)
      try simp (disch := omega) only [wr32_i2, wdiv_i2, wrem_i2] at hx13
      have h1113 : I11 (o0 + 1) x13.toNat = I0 (o0 + 1) x4.toNat + 1 := by rw [show x13 = x8 by omega, fI11 _ _ (by omega), eI9, if_pos ⟨rfl, rfl⟩, h68]; exact wr32_i2 (by omega) (by omega)
      refine sat_zg (by first | omega | grind | grind [wr32]) (fun g_11 => ?_)
      refine sat_zg (by first | omega | grind | grind [wr32]) (fun g_12 => ?_)
      have ⟨r_13a, r_13b⟩ : -2147483648 ≤ I11 (o0 + 1) x13.toNat ∧ I11 (o0 + 1) x13.toNat < 2147483648 := hRI11.1 (o0 + 1) x13.toNat
      try have r_13many := gx_many hRI11 x13.toNat (by omega) (by omega)
      try have r_13seen := gx_seen hRI11 x13.toNat (by omega) (by omega)
      try have r_13part := gx_part hRI11 x13.toNat (by omega) (by omega)
      try have r_13rows := gx_rows hRI11 x13.toNat (by omega) (by omega) (by omega)
      refine sat_zwX1 hRI11 (wr32_in _) (cw_10 (by rw [h1113, wr32_i2 (by omega) (by omega)]; omega)) (fun I14 eI14 hRI14 => ?_)
      exact sat_zr ⟨(wr32_in _), hRI14, ⟨fun j hj => by rw [eI14, if_neg (by omega), fI11 _ _ (by omega), eI9, if_neg (by omega), fI6 _ _ (by omega)], by rw [eI14, if_neg (by omega), fI11 _ _ (by omega), eI9, if_neg (by omega), fI6 _ _ (by omega)]⟩⟩
theorem kp_X_heap (fu : Nat) (o0 : Nat) (a1 : Int) (a2 : Int) (I0 : IMem) (hfu : 5000000000 < fu) (hRI0 : GX o0 I0) (qa1 : inr a1) (qa2 : inr a2) : sat (f_X_heap fu o0 a1 a2 I0) (fun v I => inr v ∧ GX o0 I ∧ KO o0 I0 I) := by
  unfold f_X_heap
  obtain ⟨aa1, ba1⟩ := qa1
  obtain ⟨aa2, ba2⟩ := qa2
  refine sat_zb (ok_X_isIn fu a1 1 8 I0 hfu hRI0.1 ⟨aa1, ba1⟩ (lit_in rfl) (lit_in rfl)) (fun y1 I2 c_1 ⟨⟨ay1, by1⟩, _, pI2⟩ => ?_)
  have eI2 := pI2.1.symm; replace pI2 := pI2.2; subst eI2
  refine sat_ite (fun q_2 => ?_) (fun q_2 => ?_)
  · exact sat_zr ⟨(lit_in rfl), hRI0, ko_rfl⟩
  · refine sat_zb (ok_X_isIn fu a2 0 9 I0 hfu hRI0.1 ⟨aa2, ba2⟩ (lit_in rfl) (lit_in rfl)) (fun y4 I5 c_3 ⟨⟨ay4, by4⟩, _, pI5⟩ => ?_)
    have eI5 := pI5.1.symm; replace pI5 := pI5.2; subst eI5
    refine sat_ite (fun q_4 => ?_) (fun q_4 => ?_)
    · exact sat_zr ⟨(lit_in rfl), hRI0, ko_rfl⟩
    · refine ok_X_heap_27 (Ib := I0) fu _ o0 a1 a2 hfu ⟨aa1, ba1⟩ ⟨aa2, ba2⟩ (by first | omega | (simp (disch := omega) only [wr32_i2, wdiv_i2, wrem_i2]; omega) | grind | grind [wr32]) ?_ (fun v I h1 h2 h3 => sat_zr ⟨h1, h2, (by first | exact h3.elim | exact h3.2.elim)⟩) fu a2 1 I0 ⟨aa2, ba2⟩ (lit_in rfl) hRI0 ⟨rfl, ⟨by omega, by omega, by intro q; omega, by intro q; rw [show ((1 : Int) - 1).toNat = 0 by decide]; show a2 = a2 + 0; omega⟩⟩ (by first | omega | (simp (disch := omega) only [wr32_i2, wdiv_i2, wrem_i2]; omega) | grind | grind [wr32])
      · intro x14 I13 ⟨ax14, bx14⟩ hRI13 xI13
        have exI13 := xI13.1.symm; replace xI13 := xI13.2; subst exI13
        refine sat_ite (fun q_5 => ?_) (fun q_5 => ?_)
        · exact sat_zr ⟨(lit_in rfl), hRI0, ko_rfl⟩
        · refine sat_zl (wr32_in _) (fun x16 hx16 ax16 bx16 => ?_)
          try simp (disch := omega) only [wr32_i2, wdiv_i2, wrem_i2] at hx16
          refine sat_zg (by first | omega | grind | grind [wr32]) (fun g_6 => ?_)
          refine sat_zwX1 hRI0 ⟨aa2, ba2⟩ (cw_61 ⟨by omega, by omega, by omega, by rw [show x16.toNat = (60 + a1).toNat by omega]; omega⟩) (fun I15 eI15 hRI15 => ?_)
          exact sat_zr ⟨(lit_in rfl), hRI15, ⟨fun j hj => by rw [eI15, if_neg (by omega)], by rw [eI15, if_neg (by omega)]⟩⟩
theorem kp_X_send (fu : Nat) (o0 : Nat) (I0 : IMem) (hfu : 5000000000 < fu) (hRI0 : GX o0 I0) (hc : I0 (o0 + 1) 70 < 2000000000) : sat (f_X_send fu o0 I0) (fun v I => inr v ∧ GX o0 I ∧ (I o0 35 = 0 ∧ I (o0 + 1) 70 = I0 (o0 + 1) 70 + 1 ∧ (∀ k : Nat, k < 240 → I (o0 + 13) k = 0))) := by
  unfold f_X_send
  refine sat_zb (ok_X_begins fu o0 I0 hfu hRI0 ) (fun u_1 I2 c_2 ⟨⟨au_1, bu_1⟩, hRI2, pI2⟩ => ?_)
  have fI2 : ∀ q j, ¬ (q = o0 + 9 ∨ q = o0 + 12 ∨ (q = o0 ∧ j = 30) ∨ (q = o0 ∧ j = 31) ∨ (q = o0 ∧ j = 32) ∨ (q = o0 ∧ j = 33) ∨ (q = o0 ∧ j = 34)) → I2 q j = I0 q j := fc_X_begins (fun q j => q = o0 + 9 ∨ q = o0 + 12 ∨ (q = o0 ∧ j = 30) ∨ (q = o0 ∧ j = 31) ∨ (q = o0 ∧ j = 32) ∨ (q = o0 ∧ j = 33) ∨ (q = o0 ∧ j = 34)) fu o0 I0 (fun _ => by simp) (fun _ => by simp) (by simp) (by simp) (by simp) (by simp) (by simp) c_2
  refine ok_X_send_6 (Ib := I2) fu _ o0 hfu ?_ (fun v I h1 h2 h3 => sat_zr ⟨h1, h2, (by first | exact h3.elim | exact h3.2.elim)⟩) fu 0 I2 (lit_in rfl) hRI2 ⟨(fun _ _ _ => rfl), ⟨by omega, fs_0 hRI2 pI2.1 pI2.2.1 (fun k hk => (pI2.2.2.2 k hk).1), pI2.1⟩⟩ (by first | omega | (simp (disch := omega) only [wr32_i2, wdiv_i2, wrem_i2]; omega) | grind | grind [wr32])
  · intro I9  hRI9 xI9
    have fI9 := xI9.1; replace xI9 := xI9.2
    have hc9 : I9 (o0 + 1) 70 = I0 (o0 + 1) 70 := (fI9 _ _ (by omega)).trans (fI2 _ _ (by omega))
    refine sat_zb (ok_X_goesOff fu o0 I9 hfu hRI9 (by first | omega | (simp (disch := omega) only [wr32_i2, wdiv_i2, wrem_i2]; omega) | grind | grind [wr32]) (by first | omega | (simp (disch := omega) only [wr32_i2, wdiv_i2, wrem_i2]; omega) | grind | grind [wr32])) (fun y10 I11 c_3 ⟨⟨ay10, by10⟩, hRI11, pI11⟩ => ?_)
    have fI11 : ∀ q j, ¬ (q = o0 + 1 ∨ q = o0 + 13 ∨ q = o0 + 14 ∨ (q = o0 ∧ j = 24) ∨ (q = o0 ∧ j = 35)) → I11 q j = I9 q j := fc_X_goesOff (fun q j => q = o0 + 1 ∨ q = o0 + 13 ∨ q = o0 + 14 ∨ (q = o0 ∧ j = 24) ∨ (q = o0 ∧ j = 35)) fu o0 I9 (fun _ => by simp) (fun _ => by simp) (fun _ => by simp) (by simp) (by simp) c_3
    exact sat_zr ⟨⟨ay10, by10⟩, hRI11, ⟨pI11.1, by rw [pI11.2.1, hc9], pI11.2.2⟩⟩
def CSet (a1 a2 : Int) : Prop := (a1 = 0 ∧ 2 ≤ a2 ∧ a2 ≤ 8) ∨ (a1 = 1 ∧ 1 ≤ a2 ∧ a2 ≤ 99) ∨ (a1 = 2 ∧ 0 ≤ a2 ∧ a2 ≤ 999) ∨ (a1 = 3 ∧ 0 ≤ a2 ∧ a2 ≤ 1000) ∨ (a1 = 4 ∧ 0 ≤ a2 ∧ a2 ≤ 99) ∨ (a1 = 5 ∧ 0 ≤ a2 ∧ a2 ≤ 3)
theorem kp_X_set (fu : Nat) (o0 : Nat) (a1 : Int) (a2 : Int) (I0 : IMem) (hfu : 5000000000 < fu) (hRI0 : GX o0 I0) (qa1 : inr a1) (qa2 : inr a2) : sat (f_X_set fu o0 a1 a2 I0) (fun v I => inr v ∧ GX o0 I ∧ KO o0 I0 I ∧ ((I o0 35 = 0 ∧ ∀ k : Nat, k < 240 → I (o0 + 13) k = 0) ∨ (I o0 35 = I0 o0 35 ∧ ∀ k, I (o0 + 13) k = I0 (o0 + 13) k)) ∧ AN (CSet a1 a2) v) := by
  unfold f_X_set
  obtain ⟨aa1, ba1⟩ := qa1
  obtain ⟨aa2, ba2⟩ := qa2
  refine sat_zj (fun k1 ek1 => ?_)
  have hk1 : ∀ (x3 : Int) (I2 : IMem), inr x3 → GX o0 I2 → (I2 = I0 ∧ (x3 ≠ 0 ↔ CSet a1 a2)) → sat (k1 x3 I2) (fun v I => inr v ∧ GX o0 I ∧ KO o0 I0 I ∧ ((I o0 35 = 0 ∧ ∀ k : Nat, k < 240 → I (o0 + 13) k = 0) ∨ (I o0 35 = I0 o0 35 ∧ ∀ k, I (o0 + 13) k = I0 (o0 + 13) k)) ∧ AN (CSet a1 a2) v) := by
    intro x3 I2 ⟨ax3, bx3⟩ hRI2 jk1
    subst ek1
    have ejk1 := jk1.1.symm; replace jk1 := jk1.2; subst ejk1
    refine sat_ite (fun q_1 => ?_) (fun q_1 => ?_)
    · exact sat_zr ⟨(lit_in rfl), hRI0, ko_rfl, Or.inr ⟨rfl, fun _ => rfl⟩, an_0 (fun q => jk1.2 q q_1)⟩
    · have hcs := jk1.1 q_1
      have hcs2 := hcs
      unfold CSet at hcs2
      refine sat_zl (wr32_in _) (fun x5 hx5 ax5 bx5 => ?_)
      try simp (disch := omega) only [wr32_i2, wdiv_i2, wrem_i2] at hx5
      refine sat_zg (by first | omega | grind | grind [wr32]) (fun g_2 => ?_)
      refine sat_zwX1 hRI0 ⟨aa2, ba2⟩ (by rcases hcs2 with q | q | q | q | q | q; exact cw_1 (by omega); exact cw_f1 (by omega); exact cw_f1 (by omega); exact cw_f1 (by omega); exact cw_f1 (by omega); exact cw_6 (by omega)) (fun I4 eI4 hRI4 => ?_)
      refine sat_ite (fun q_3 => ?_) (fun q_3 => ?_)
      · refine sat_zb (ok_X_forgets fu o0 I4 hfu hRI4 ) (fun u_4 I7 c_5 ⟨⟨au_4, bu_4⟩, hRI7, pI7⟩ => ?_)
        have fI7 : ∀ q j, ¬ (q = o0 + 13 ∨ (q = o0 ∧ j = 35)) → I7 q j = I4 q j := fc_X_forgets (fun q j => q = o0 + 13 ∨ (q = o0 ∧ j = 35)) fu o0 I4 (fun _ => by simp) (by simp) c_5
        exact sat_zr ⟨(lit_in rfl), hRI7, ⟨fun j hj => by rw [fI7 _ _ (by omega), eI4, if_neg (by omega)], by rw [fI7 _ _ (by omega), eI4, if_neg (by omega)]⟩, Or.inl pI7, an_1 hcs⟩
      · exact sat_zr ⟨(lit_in rfl), hRI4, ⟨fun j hj => by rw [eI4, if_neg (by omega)], by rw [eI4, if_neg (by omega)]⟩, Or.inr ⟨by rw [eI4, if_neg (by omega)], fun k => by rw [eI4, if_neg (by omega)]⟩, an_1 hcs⟩
  clear ek1
  refine sat_ite (fun q_6 => ?_) (fun q_6 => ?_)
  · refine sat_zb (ok_X_isIn fu a2 2 8 I0 hfu hRI0.1 ⟨aa2, ba2⟩ (lit_in rfl) (lit_in rfl)) (fun y24 I25 c_7 ⟨⟨ay24, by24⟩, _, pI25⟩ => ?_)
    have eI25 := pI25.1.symm; replace pI25 := pI25.2; subst eI25
    exact hk1 y24 I0 ⟨ay24, by24⟩ hRI0 ⟨rfl, (by unfold CSet; omega)⟩
  · refine sat_ite (fun q_8 => ?_) (fun q_8 => ?_)
    · refine sat_zb (ok_X_isIn fu a2 1 99 I0 hfu hRI0.1 ⟨aa2, ba2⟩ (lit_in rfl) (lit_in rfl)) (fun y21 I22 c_9 ⟨⟨ay21, by21⟩, _, pI22⟩ => ?_)
      have eI22 := pI22.1.symm; replace pI22 := pI22.2; subst eI22
      exact hk1 y21 I0 ⟨ay21, by21⟩ hRI0 ⟨rfl, (by unfold CSet; omega)⟩
    · refine sat_ite (fun q_10 => ?_) (fun q_10 => ?_)
      · refine sat_zb (ok_X_isIn fu a2 0 999 I0 hfu hRI0.1 ⟨aa2, ba2⟩ (lit_in rfl) (lit_in rfl)) (fun y18 I19 c_11 ⟨⟨ay18, by18⟩, _, pI19⟩ => ?_)
        have eI19 := pI19.1.symm; replace pI19 := pI19.2; subst eI19
        exact hk1 y18 I0 ⟨ay18, by18⟩ hRI0 ⟨rfl, (by unfold CSet; omega)⟩
      · refine sat_ite (fun q_12 => ?_) (fun q_12 => ?_)
        · refine sat_zb (ok_X_isIn fu a2 0 1000 I0 hfu hRI0.1 ⟨aa2, ba2⟩ (lit_in rfl) (lit_in rfl)) (fun y15 I16 c_13 ⟨⟨ay15, by15⟩, _, pI16⟩ => ?_)
          have eI16 := pI16.1.symm; replace pI16 := pI16.2; subst eI16
          exact hk1 y15 I0 ⟨ay15, by15⟩ hRI0 ⟨rfl, (by unfold CSet; omega)⟩
        · refine sat_ite (fun q_14 => ?_) (fun q_14 => ?_)
          · refine sat_zb (ok_X_isIn fu a2 0 99 I0 hfu hRI0.1 ⟨aa2, ba2⟩ (lit_in rfl) (lit_in rfl)) (fun y12 I13 c_15 ⟨⟨ay12, by12⟩, _, pI13⟩ => ?_)
            have eI13 := pI13.1.symm; replace pI13 := pI13.2; subst eI13
            exact hk1 y12 I0 ⟨ay12, by12⟩ hRI0 ⟨rfl, (by unfold CSet; omega)⟩
          · refine sat_ite (fun q_16 => ?_) (fun q_16 => ?_)
            · refine sat_zb (ok_X_isIn fu a2 0 3 I0 hfu hRI0.1 ⟨aa2, ba2⟩ (lit_in rfl) (lit_in rfl)) (fun y9 I10 c_17 ⟨⟨ay9, by9⟩, _, pI10⟩ => ?_)
              have eI10 := pI10.1.symm; replace pI10 := pI10.2; subst eI10
              refine sat_ite (fun q_18 => ?_) (fun q_18 => ?_)
              · exact hk1 0 I0 (lit_in rfl) hRI0 ⟨rfl, (by unfold CSet; omega)⟩
              · exact hk1 1 I0 (lit_in rfl) hRI0 ⟨rfl, (by unfold CSet; omega)⟩
            · exact hk1 0 I0 (lit_in rfl) hRI0 ⟨rfl, (by unfold CSet; omega)⟩
theorem ca_S_set (fu : Nat) (a1 a2 : Int) (I0 : IMem) (hfu : 5000000000 < fu) (hRI0 : GC I0) (qa1 : inr a1) (qa2 : inr a2) : sat (f_S_set fu 0 a1 a2 I0) (fun v _ => AN (CSet a1 a2) v) := by
  unfold f_S_set
  have hc : sat (f_S_canTell fu a1 a2 I0) (fun v I => I = I0 ∧ AN (CSet a1 a2) v) := by
    unfold f_S_canTell
    refine sat_ite (fun q => sat_zr ⟨rfl, an_0 (by unfold CSet; omega)⟩) (fun q => sat_ite (fun q2 => sat_zr ⟨rfl, an_0 (by unfold CSet; omega)⟩) (fun q2 => ?_))
    refine sat_zg (by omega) (fun _ => ?_)
    have hl : (a1 = 0 → leastZ a1.toNat = 2 ∧ mostZ a1.toNat = 8) ∧ (a1 = 1 → leastZ a1.toNat = 1 ∧ mostZ a1.toNat = 99) ∧ (a1 = 2 → leastZ a1.toNat = 0 ∧ mostZ a1.toNat = 999) ∧ (a1 = 3 → leastZ a1.toNat = 0 ∧ mostZ a1.toNat = 1000) ∧ (a1 = 4 → leastZ a1.toNat = 0 ∧ mostZ a1.toNat = 99) ∧ (a1 = 5 → leastZ a1.toNat = 0 ∧ mostZ a1.toNat = 3) := by
      refine ⟨?_, ?_, ?_, ?_, ?_, ?_⟩ <;> (intro e; subst e; decide)
    refine sat_ite (fun q3 => sat_zr ⟨rfl, an_0 (by unfold CSet; omega)⟩) (fun q3 => ?_)
    refine sat_zg (by omega) (fun _ => ?_)
    refine sat_ite (fun q4 => sat_zr ⟨rfl, an_0 (by unfold CSet; omega)⟩) (fun q4 => sat_zr ⟨rfl, an_1 (by unfold CSet; omega)⟩)
  refine sat_zb hc (fun y I2 c1 ⟨e, ha⟩ => ?_)
  subst e
  refine sat_ite (fun z => sat_zr ?_) (fun z => ?_)
  · subst z; exact ha
  have hy := ha.1.resolve_left z
  subst hy
  have hcs := ha.2.1 rfl
  have hcs2 := hcs
  unfold CSet at hcs2
  refine sat_zg (by omega) (fun _ => ?_)
  refine sat_zwC hRI0 qa2 (Or.inl (by decide)) (fun I4 e4 hRI4 => ?_)
  refine sat_ite (fun q => ?_) (fun q => sat_zr (an_1 hcs))
  exact sat_zb (ok_C_clear fu (0 + 137) a2 I4 hfu hRI4 (by decide) qa2) (fun u I6 c2 h6 => sat_zr (an_1 hcs))
theorem ca_S_seen (fu : Nat) (a1 a2 : Int) (I0 : IMem) (hfu : 5000000000 < fu) (hRI0 : GC I0) (qa1 : inr a1) (qa2 : inr a2) : sat (f_S_seen fu 0 a1 a2 I0) (fun v _ => AN (CSeen a1 a2) v) := by
  unfold f_S_seen
  refine sat_zb (ok_S_isLine fu a1 I0 hfu hRI0 qa1) (fun y1 I2 c1 ⟨_, _, e, p⟩ => ?_)
  refine sat_ite (fun z => sat_zr (an_0 (by unfold CSeen; omega))) (fun z => ?_)
  refine sat_ite (fun z => sat_zr (an_0 (by unfold CSeen; omega))) (fun z => ?_)
  refine sat_ite (fun z => sat_zr (an_0 (by unfold CSeen; omega))) (fun z => ?_)
  refine sat_zg (by omega) (fun _ => ?_)
  exact sat_zr (an_1 (by unfold CSeen; omega))
theorem ca_S_parts (fu : Nat) (a1 a2 : Int) (I0 : IMem) (hfu : 5000000000 < fu) (hRI0 : GC I0) (qa1 : inr a1) (qa2 : inr a2) : sat (f_S_parts fu 0 a1 a2 I0) (fun v _ => AN (CParts a1 a2) v) := by
  unfold f_S_parts
  refine sat_ite (fun z => sat_zr (an_0 (by unfold CParts; omega))) (fun z => ?_)
  refine sat_ite (fun z => sat_zr (an_0 (by unfold CParts; omega))) (fun z => ?_)
  refine sat_ite (fun z => sat_zr (an_0 (by unfold CParts; omega))) (fun z => ?_)
  refine sat_ite (fun z => ?_) (fun z => sat_zr (an_0 (by unfold CParts; omega)))
  refine sat_zg (by omega) (fun _ => ?_)
  exact sat_zr (an_1 (by unfold CParts; omega))
theorem ca_S_canBe (fu : Nat) (a0 a1 a2 : Int) (I0 : IMem) : sat (f_S_canBe fu a0 a1 a2 I0) (fun v I => I = I0 ∧ AN (1 ≤ a0 ∧ a0 ≤ 8 ∧ 1 ≤ a1 ∧ a1 ≤ a0 ∧ 0 ≤ a2 ∧ a2 ≤ 3) v) := by
  unfold f_S_canBe
  refine sat_ite (fun z => sat_zr ⟨rfl, an_0 (by omega)⟩) (fun z => ?_)
  refine sat_ite (fun z => sat_zr ⟨rfl, an_0 (by omega)⟩) (fun z => ?_)
  refine sat_ite (fun z => sat_zr ⟨rfl, an_0 (by omega)⟩) (fun z => ?_)
  refine sat_ite (fun z => sat_zr ⟨rfl, an_0 (by omega)⟩) (fun z => ?_)
  refine sat_ite (fun z => sat_zr ⟨rfl, an_0 (by omega)⟩) (fun z => ?_)
  refine sat_ite (fun z => sat_zr ⟨rfl, an_0 (by omega)⟩) (fun z => sat_zr ⟨rfl, an_1 (by omega)⟩)
theorem ca_S_comer (fu : Nat) (a1 a2 a3 a4 a5 : Int) (I0 : IMem) (hfu : 5000000000 < fu) (hRI0 : GC I0) (qa1 : inr a1) (qa2 : inr a2) (qa3 : inr a3) (qa4 : inr a4) (qa5 : inr a5) : sat (f_S_comer fu 0 a1 a2 a3 a4 a5 I0) (fun v _ => AN (CComer a1 a2 a3 a4 a5) v) := by
  unfold f_S_comer
  refine sat_ite (fun z => sat_zr (an_0 (by unfold CComer; omega))) (fun z => ?_)
  refine sat_ite (fun z9 => ?_) (fun z => sat_zr (an_0 (by unfold CComer; omega)))
  refine sat_zb (ca_S_canBe fu a2 a3 a4 I0) (fun y1 I2 c1 ⟨e, p, p2⟩ => ?_)
  subst e
  refine sat_ite (fun z => sat_zr (an_0 (by unfold CComer; omega))) (fun z => ?_)
  refine sat_ite (fun z => sat_zr (an_0 (by unfold CComer; omega))) (fun z => ?_)
  refine sat_ite (fun z => sat_zr (an_0 (by unfold CComer; omega))) (fun z => ?_)
  exact sat_zb (ok_H_tellComer fu (0 + 1) a1 a2 a3 a4 a5 I2 hfu hRI0 (Or.inl rfl) qa1 qa2 qa3 qa4 qa5) (fun u I6 c2 h6 => sat_zr (an_1 (by unfold CComer; omega)))
