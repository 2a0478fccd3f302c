/-! safety of the reference -/
theorem ok_X_isPlain (fu : Nat) (o0 : Nat) (a1 : Int) (a2 : Int) (I0 : IMem) (hfu : 5000000000 < fu) (hRI0 : GX o0 I0) (qa1 : inr a1) (qa2 : inr a2) : sat (f_X_isPlain fu o0 a1 a2 I0) (fun v I => inr v ∧ GX o0 I ∧ (I = I0 ∧ ((v = 0 ∨ v = 1) ∧ (v = 1 → 0 ≤ a1 ∧ a1 < 6 ∧ 0 ≤ a2 ∧ a2 < I0 (o0 + 1) (130 + a1).toNat ∧ a2 < 40)))) := by
  unfold f_X_isPlain
  obtain ⟨aa1, ba1⟩ := qa1
  obtain ⟨aa2, ba2⟩ := qa2
  refine sat_zb (ok_X_isThere fu o0 a1 a2 I0 hfu hRI0 ⟨aa1, ba1⟩ ⟨aa2, ba2⟩) (fun y1 I2 c_1 ⟨⟨ay1, by1⟩, _, pI2⟩ => ?_)
  have eI2 := pI2.1.symm; replace pI2 := pI2.2; subst eI2
  refine sat_ite (fun q_2 => ?_) (fun q_2 => ?_)
  · exact sat_zr ⟨(lit_in rfl), hRI0, ⟨rfl, (by first | omega | (simp (disch := omega) only [wr32_i2, wdiv_i2, wrem_i2]; omega) | grind | grind [wr32])⟩⟩
  · refine sat_zb (ok_X_of fu o0 a1 a2 3 I0 hfu hRI0 ⟨aa1, ba1⟩ ⟨aa2, ba2⟩ (lit_in rfl) (by first | omega | (simp (disch := omega) only [wr32_i2, wdiv_i2, wrem_i2]; omega) | grind | grind [wr32])) (fun y4 I5 c_3 ⟨⟨ay4, by4⟩, _, pI5⟩ => ?_)
    have eI5 := pI5.1.symm; replace pI5 := pI5.2; subst eI5
    refine sat_ite (fun q_4 => ?_) (fun q_4 => ?_)
    · refine sat_zb (ok_X_of fu o0 a1 a2 2 I0 hfu hRI0 ⟨aa1, ba1⟩ ⟨aa2, ba2⟩ (lit_in rfl) (by first | omega | (simp (disch := omega) only [wr32_i2, wdiv_i2, wrem_i2]; omega) | grind | grind [wr32])) (fun y7 I8 c_5 ⟨⟨ay7, by7⟩, _, pI8⟩ => ?_)
      have eI8 := pI8.1.symm; replace pI8 := pI8.2; subst eI8
      refine sat_zb (ok_X_of fu o0 a1 a2 1 I0 hfu hRI0 ⟨aa1, ba1⟩ ⟨aa2, ba2⟩ (lit_in rfl) (by first | omega | (simp (disch := omega) only [wr32_i2, wdiv_i2, wrem_i2]; omega) | grind | grind [wr32])) (fun y10 I11 c_6 ⟨⟨ay10, by10⟩, _, pI11⟩ => ?_)
      have eI11 := pI11.1.symm; replace pI11 := pI11.2; subst eI11
      refine sat_ite (fun q_7 => ?_) (fun q_7 => ?_)
      · exact sat_zr ⟨(lit_in rfl), hRI0, ⟨rfl, (by first | omega | (simp (disch := omega) only [wr32_i2, wdiv_i2, wrem_i2]; omega) | grind | grind [wr32])⟩⟩
      · exact sat_zr ⟨(lit_in rfl), hRI0, ⟨rfl, (by first | omega | (simp (disch := omega) only [wr32_i2, wdiv_i2, wrem_i2]; omega) | grind | grind [wr32])⟩⟩
    · exact sat_zr ⟨(lit_in rfl), hRI0, ⟨rfl, (by first | omega | (simp (disch := omega) only [wr32_i2, wdiv_i2, wrem_i2]; omega) | grind | grind [wr32])⟩⟩
theorem ok_X_joined_85 {Ib : IMem} (fu : Nat) (k_123 : IMem → Res) (o0 : Nat) (p1 : Int) (p5 : Int) (p7 : Int) (hfu : 5000000000 < fu) (qp1 : inr p1) (qp5 : inr p5) (qp7 : inr p7) (hp : 0 ≤ p1 ∧ p1 < 6 ∧ 0 ≤ p7 ∧ p7 + 1 < 40 ∧ p7 + 1 < Ib (o0 + 1) (130 + p1).toNat) {Q_ : Int → IMem → Prop} (hk_123 : ∀ (I9 : IMem), GX o0 I9 → ((∀ q j, ¬ (q = o0 + 1) → I9 q j = Ib q j) ∧ (∀ j : Nat, j < 140 → I9 (o0 + 1) j = Ib (o0 + 1) j)) → sat (k_123 I9) Q_) (hret : ∀ v I, inr v → GX o0 I → ((∀ q j, ¬ (q = o0 + 1) → I q j = Ib q j) ∧ (False)) → sat (zr v I) Q_) : ∀ (m : Nat) (w8 : Int) (I0 : IMem), inr w8 → GX o0 I0 → ((∀ q j, ¬ (q = o0 + 1) → I0 q j = Ib q j) ∧ (0 ≤ w8 ∧ w8 ≤ 6 ∧ (∀ j : Nat, (j < 140 ∨ (140 + 6 * (40 * p1 + p7 + 1) ≤ (j : Int))) → I0 (o0 + 1) j = Ib (o0 + 1) j))) → (6 - w8).toNat < m → sat (f_X_joined_85 fu k_123 o0 p1 p5 p7 m w8 I0) Q_ := by
  intro m
  induction m with
  | zero => intro w8 I0 _ _ _ h0; exact absurd h0 (Nat.not_lt_zero _)
  | succ m hR_ =>
    intro w8 I0 ⟨aw8, bw8⟩ hRI0 hinv hmeas
    have fI0 := hinv.1; replace hinv := hinv.2
    show sat (fb_X_joined_85 fu k_123 o0 p1 p5 p7 (f_X_joined_85 fu k_123 o0 p1 p5 p7 m) w8 I0) Q_
    unfold fb_X_joined_85
    obtain ⟨ap1, bp1⟩ := qp1
    obtain ⟨ap5, bp5⟩ := qp5
    obtain ⟨ap7, bp7⟩ := qp7
    have hmn : I0 (o0 + 1) (130 + p1).toNat = Ib (o0 + 1) (130 + p1).toNat := hinv.2.2 _ (by omega)
    refine sat_ite (fun q_1 => ?_) (fun q_1 => ?_)
    · refine sat_zb (ok_X_cell fu p1 p7 I0 hfu hRI0.1 ⟨ap1, bp1⟩ ⟨ap7, bp7⟩ (by first | omega | (simp (disch := omega) only [wr32_i2, wdiv_i2, wrem_i2]; omega) | grind | grind [wr32])) (fun y25 I26 c_2 ⟨⟨ay25, by25⟩, _, pI26⟩ => ?_)
      have eI26 := pI26.1.symm; replace pI26 := pI26.2; subst eI26
      refine sat_zb (ok_X_of fu o0 p1 (wr32 (p7 + 1)) w8 I0 hfu hRI0 ⟨ap1, bp1⟩ (wr32_in _) ⟨aw8, bw8⟩ (by first | omega | (simp (disch := omega) only [wr32_i2, wdiv_i2, wrem_i2]; omega) | grind | grind [wr32])) (fun y28 I29 c_3 ⟨⟨ay28, by28⟩, _, pI29⟩ => ?_)
      have eI29 := pI29.1.symm; replace pI29 := pI29.2; subst eI29
      try simp (disch := omega) only [wr32_i2, wdiv_i2, wrem_i2] at pI29
      refine sat_zl (wr32_in _) (fun x32 hx32 ax32 bx32 => ?_)
      try simp (disch := omega) only [wr32_i2, wdiv_i2, wrem_i2] at hx32
      refine sat_zg (by first | omega | grind | grind [wr32]) (fun g_4 => ?_)
      refine sat_zwX1 hRI0 ⟨ay28, by28⟩ (by by_cases q8 : w8 = 1; exact cw_sz (by have := pI29.2 q8 (by omega); omega); exact cw_grp (by omega)) (fun I31 eI31 hRI31 => ?_)
      refine sat_zl (wr32_in _) (fun x33 hx33 ax33 bx33 => ?_)
      try simp (disch := omega) only [wr32_i2, wdiv_i2, wrem_i2] at hx33
      exact hR_ x33 I31 ⟨ax33, bx33⟩ hRI31 ⟨(by intro q j hq; grind), ⟨by omega, by omega, fun j hj => by rw [eI31, if_neg (by omega)]; exact hinv.2.2 j hj⟩⟩ (by first | omega | (simp (disch := omega) only [wr32_i2, wdiv_i2, wrem_i2]; omega) | grind | grind [wr32])
    · exact hk_123 I0 hRI0 ⟨(by intro q j hq; grind), (fun j hj => hinv.2.2 j (Or.inl hj))⟩
theorem ok_X_joined_65 {Ib : IMem} (fu : Nat) (k_129 : IMem → Res) (o0 : Nat) (p1 : Int) (p5 : Int) (hfu : 5000000000 < fu) (qp1 : inr p1) (qp5 : inr p5) (hp : 0 ≤ p1 ∧ p1 < 6) {Q_ : Int → IMem → Prop} (hk_129 : ∀ (I9 : IMem), GX o0 I9 → ((∀ q j, ¬ (q = o0 + 1) → I9 q j = Ib q j) ∧ (∀ j : Nat, j < 140 → I9 (o0 + 1) j = Ib (o0 + 1) j)) → sat (k_129 I9) Q_) (hret : ∀ v I, inr v → GX o0 I → ((∀ q j, ¬ (q = o0 + 1) → I q j = Ib q j) ∧ (False)) → sat (zr v I) Q_) : ∀ (m : Nat) (w7 : Int) (I0 : IMem), inr w7 → GX o0 I0 → ((∀ q j, ¬ (q = o0 + 1) → I0 q j = Ib q j) ∧ (0 ≤ w7 ∧ w7 < 40 ∧ (∀ j : Nat, j < 140 → I0 (o0 + 1) j = Ib (o0 + 1) j))) → (40 - w7).toNat < m → sat (f_X_joined_65 fu k_129 o0 p1 p5 m w7 I0) Q_ := by
  intro m
  induction m with
  | zero => intro w7 I0 _ _ _ h0; exact absurd h0 (Nat.not_lt_zero _)
  | succ m hR_ =>
    intro w7 I0 ⟨aw7, bw7⟩ hRI0 hinv hmeas
    have fI0 := hinv.1; replace hinv := hinv.2
    show sat (fb_X_joined_65 fu k_129 o0 p1 p5 (f_X_joined_65 fu k_129 o0 p1 p5 m) w7 I0) Q_
    unfold fb_X_joined_65
    obtain ⟨ap1, bp1⟩ := qp1
    obtain ⟨ap5, bp5⟩ := qp5
    refine sat_zl (wr32_in _) (fun x24 hx24 ax24 bx24 => ?_)
    try simp (disch := omega) only [wr32_i2, wdiv_i2, wrem_i2] at hx24
    refine sat_zg (by first | omega | grind | grind [wr32]) (fun g_1 => ?_)
    have ⟨r_2a, r_2b⟩ : -2147483648 ≤ I0 (o0 + 1) x24.toNat ∧ I0 (o0 + 1) x24.toNat < 2147483648 := hRI0.1 (o0 + 1) x24.toNat
    try have r_2many := gx_many hRI0 x24.toNat (by omega) (by omega)
    try have r_2seen := gx_seen hRI0 x24.toNat (by omega) (by omega)
    try have r_2part := gx_part hRI0 x24.toNat (by omega) (by omega)
    try have r_2rows := gx_rows hRI0 x24.toNat (by omega) (by omega) (by omega)
    refine sat_ite (fun q_3 => ?_) (fun q_3 => ?_)
    · try simp (disch := omega) only [wr32_i2, wdiv_i2, wrem_i2] at q_3
      refine ok_X_joined_85 (Ib := I0) fu _ o0 p1 p5 w7 hfu ⟨ap1, bp1⟩ ⟨ap5, bp5⟩ ⟨aw7, bw7⟩ (by first | omega | (simp (disch := omega) only [wr32_i2, wdiv_i2, wrem_i2]; omega) | grind | grind [wr32]) ?_ (fun v I h1 h2 h3 => hret v I h1 h2 (by first | exact h3.elim | exact h3.2.elim)) fu 0 I0 (lit_in rfl) hRI0 ⟨(fun _ _ _ => rfl), ⟨by omega, by omega, fun j _ => rfl⟩⟩ (by first | omega | (simp (disch := omega) only [wr32_i2, wdiv_i2, wrem_i2]; omega) | grind | grind [wr32])
      · intro I34  hRI34 xI34
        have fI34 := xI34.1; replace xI34 := xI34.2
        refine sat_zl (wr32_in _) (fun x35 hx35 ax35 bx35 => ?_)
        try simp (disch := omega) only [wr32_i2, wdiv_i2, wrem_i2] at hx35
        exact hR_ x35 I34 ⟨ax35, bx35⟩ hRI34 ⟨(by intro q j hq; grind), ⟨by omega, by omega, fun j hj => (xI34 j hj).trans (hinv.2.2 j hj)⟩⟩ (by first | omega | (simp (disch := omega) only [wr32_i2, wdiv_i2, wrem_i2]; omega) | grind | grind [wr32])
    · try simp (disch := omega) only [wr32_i2, wdiv_i2, wrem_i2] at q_3
      exact hk_129 I0 hRI0 ⟨(by intro q j hq; grind), hinv.2.2⟩
theorem ok_X_joined (fu : Nat) (o0 : Nat) (a1 : Int) (a2 : Int) (a3 : Int) (a4 : Int) (I0 : IMem) (hfu : 5000000000 < fu) (hRI0 : GX o0 I0) (qa1 : inr a1) (qa2 : inr a2) (qa3 : inr a3) (qa4 : inr a4) (h0 : 0 ≤ a1 ∧ a1 < 6 ∧ 0 ≤ a2 ∧ a2 < 40 ∧ a2 < I0 (o0 + 1) (130 + a1).toNat ∧ 0 ≤ a3 ∧ a3 < 6 ∧ 0 ≤ a4 ∧ a4 < 40 ∧ a4 < I0 (o0 + 1) (130 + a3).toNat) (hs : I0 (o0 + 1) (140 + 6 * (40 * a1 + a2) + 1).toNat + I0 (o0 + 1) (140 + 6 * (40 * a3 + a4) + 1).toNat ≤ 8) (hc : I0 (o0 + 1) 70 < 1900000000) : sat (f_X_joined fu o0 a1 a2 a3 a4 I0) (fun v I => inr v ∧ GX o0 I ∧ (SA o0 I0 I)) := by
  unfold f_X_joined
  obtain ⟨aa1, ba1⟩ := qa1
  obtain ⟨aa2, ba2⟩ := qa2
  obtain ⟨aa3, ba3⟩ := qa3
  obtain ⟨aa4, ba4⟩ := qa4
  refine sat_zb (ok_X_of fu o0 a3 a4 0 I0 hfu hRI0 ⟨aa3, ba3⟩ ⟨aa4, ba4⟩ (lit_in rfl) (by first | omega | (simp (disch := omega) only [wr32_i2, wdiv_i2, wrem_i2]; omega) | grind | grind [wr32])) (fun y1 I2 c_1 ⟨⟨ay1, by1⟩, _, pI2⟩ => ?_)
  have eI2 := pI2.1.symm; replace pI2 := pI2.2; subst eI2
  refine sat_zb (ok_X_of fu o0 a1 a2 1 I0 hfu hRI0 ⟨aa1, ba1⟩ ⟨aa2, ba2⟩ (lit_in rfl) (by first | omega | (simp (disch := omega) only [wr32_i2, wdiv_i2, wrem_i2]; omega) | grind | grind [wr32])) (fun y4 I5 c_2 ⟨⟨ay4, by4⟩, _, pI5⟩ => ?_)
  have eI5 := pI5.1.symm; replace pI5 := pI5.2; subst eI5
  refine sat_zb (ok_X_of fu o0 a3 a4 1 I0 hfu hRI0 ⟨aa3, ba3⟩ ⟨aa4, ba4⟩ (lit_in rfl) (by first | omega | (simp (disch := omega) only [wr32_i2, wdiv_i2, wrem_i2]; omega) | grind | grind [wr32])) (fun y7 I8 c_3 ⟨⟨ay7, by7⟩, _, pI8⟩ => ?_)
  have eI8 := pI8.1.symm; replace pI8 := pI8.2; subst eI8
  refine sat_zl (wr32_in _) (fun x10 hx10 ax10 bx10 => ?_)
  try simp (disch := omega) only [wr32_i2, wdiv_i2, wrem_i2] at hx10
  refine sat_zb (ok_X_setsOut fu o0 I0 hfu hRI0 ) (fun u_4 I12 c_5 ⟨⟨au_4, bu_4⟩, hRI12, pI12⟩ => ?_)
  have fI12 : ∀ q j, ¬ (q = o0 + 3 ∨ q = o0 + 23 ∨ q = o0 + 24 ∨ (q = o0 ∧ j = 50)) → I12 q j = I0 q j := fc_X_setsOut (fun q j => q = o0 + 3 ∨ q = o0 + 23 ∨ q = o0 + 24 ∨ (q = o0 ∧ j = 50)) fu o0 I0 (fun _ => by simp) (fun _ => by simp) (fun _ => by simp) (by simp) c_5
  have hc2 : I12 (o0 + 1) 70 = I0 (o0 + 1) 70 := pI12.2.2.2.2 _ _ (by omega) (by omega) (by omega) (by omega)
  have hm12 : I12 (o0 + 1) (130 + a1).toNat = I0 (o0 + 1) (130 + a1).toNat := pI12.2.2.2.2 _ _ (by omega) (by omega) (by omega) (by omega)
  have hz1 := gx_size hRI0 a1 a2 (by omega) (by omega) (by omega) (by omega)
  have hz3 := gx_size hRI0 a3 a4 (by omega) (by omega) (by omega) (by omega)
  have hmx := gx_many hRI0 (130 + a1).toNat (by omega) (by omega)
  refine sat_zb (ok_X_cell fu a3 a4 I12 hfu hRI12.1 ⟨aa3, ba3⟩ ⟨aa4, ba4⟩ (by first | omega | (simp (disch := omega) only [wr32_i2, wdiv_i2, wrem_i2]; omega) | grind | grind [wr32])) (fun y14 I15 c_6 ⟨⟨ay14, by14⟩, _, pI15⟩ => ?_)
  have eI15 := pI15.1.symm; replace pI15 := pI15.2; subst eI15
  refine sat_zl (wr32_in _) (fun x18 hx18 ax18 bx18 => ?_)
  try simp (disch := omega) only [wr32_i2, wdiv_i2, wrem_i2] at hx18
  refine sat_zg (by first | omega | grind | grind [wr32]) (fun g_7 => ?_)
  refine sat_zwX1 hRI12 ⟨ax10, bx10⟩ (cw_sz (by omega)) (fun I17 eI17 hRI17 => ?_)
  refine sat_zb (ok_X_cell fu a3 a4 I17 hfu hRI17.1 ⟨aa3, ba3⟩ ⟨aa4, ba4⟩ (by first | omega | (simp (disch := omega) only [wr32_i2, wdiv_i2, wrem_i2]; omega) | grind | grind [wr32])) (fun y19 I20 c_8 ⟨⟨ay19, by19⟩, _, pI20⟩ => ?_)
  have eI20 := pI20.1.symm; replace pI20 := pI20.2; subst eI20
  refine sat_zl (wr32_in _) (fun x23 hx23 ax23 bx23 => ?_)
  try simp (disch := omega) only [wr32_i2, wdiv_i2, wrem_i2] at hx23
  refine sat_zg (by first | omega | grind | grind [wr32]) (fun g_9 => ?_)
  refine sat_zwX1 hRI17 ⟨ax10, bx10⟩ (cw_grp (by omega)) (fun I22 eI22 hRI22 => ?_)
  refine ok_X_joined_65 (Ib := I22) fu _ o0 a1 y1 hfu ⟨aa1, ba1⟩ ⟨ay1, by1⟩ (by first | omega | (simp (disch := omega) only [wr32_i2, wdiv_i2, wrem_i2]; omega) | grind | grind [wr32]) ?_ (fun v I h1 h2 h3 => sat_zr ⟨h1, h2, (by first | exact h3.elim | exact h3.2.elim)⟩) fu a2 I22 ⟨aa2, ba2⟩ hRI22 ⟨(fun _ _ _ => rfl), (by first | omega | (simp (disch := omega) only [wr32_i2, wdiv_i2, wrem_i2]; omega) | grind | grind [wr32])⟩ (by first | omega | (simp (disch := omega) only [wr32_i2, wdiv_i2, wrem_i2]; omega) | grind | grind [wr32])
  · intro I36  hRI36 xI36
    have fI36 := xI36.1; replace xI36 := xI36.2
    have hm36 : I36 (o0 + 1) (130 + a1).toNat = I0 (o0 + 1) (130 + a1).toNat := by rw [xI36 _ (by omega), eI22, if_neg (by omega), eI17, if_neg (by omega)]; exact hm12
    have hc36 : I36 (o0 + 1) 70 = I0 (o0 + 1) 70 := by rw [xI36 _ (by omega), eI22, if_neg (by omega), eI17, if_neg (by omega)]; exact hc2
    refine sat_zl (wr32_in _) (fun x37 hx37 ax37 bx37 => ?_)
    try simp (disch := omega) only [wr32_i2, wdiv_i2, wrem_i2] at hx37
    have hm37 : I36 (o0 + 1) x37.toNat = I0 (o0 + 1) (130 + a1).toNat := by rw [show x37.toNat = (130 + a1).toNat by omega]; exact hm36
    refine sat_zg (by first | omega | grind | grind [wr32]) (fun g_10 => ?_)
    refine sat_zg (by first | omega | grind | grind [wr32]) (fun g_11 => ?_)
    have ⟨r_12a, r_12b⟩ : -2147483648 ≤ I36 (o0 + 1) x37.toNat ∧ I36 (o0 + 1) x37.toNat < 2147483648 := hRI36.1 (o0 + 1) x37.toNat
    try have r_12many := gx_many hRI36 x37.toNat (by omega) (by omega)
    try have r_12seen := gx_seen hRI36 x37.toNat (by omega) (by omega)
    try have r_12part := gx_part hRI36 x37.toNat (by omega) (by omega)
    try have r_12rows := gx_rows hRI36 x37.toNat (by omega) (by omega) (by omega)
    refine sat_zwX1 hRI36 (wr32_in _) (cw_130 (by rw [hm37, wr32_i2 (by omega) (by omega)]; exact ⟨by omega, by omega, by omega, by omega, Or.inl (by omega)⟩)) (fun I38 eI38 hRI38 => ?_)
    have hc38 : I38 (o0 + 1) 70 = I0 (o0 + 1) 70 := by rw [eI38, if_neg (by omega)]; exact hc36
    refine sat_zb (ok_X_sitsAfter fu o0 y1 I38 hfu hRI38 ⟨ay1, by1⟩ (by first | omega | (simp (disch := omega) only [wr32_i2, wdiv_i2, wrem_i2]; omega) | grind | grind [wr32])) (fun y39 I40 c_13 ⟨⟨ay39, by39⟩, hRI40, pI40⟩ => ?_)
    have fI40 : ∀ q j, ¬ (q = o0 + 1 ∨ q = o0 + 7 ∨ q = o0 + 9 ∨ q = o0 + 10 ∨ q = o0 + 11 ∨ q = o0 + 12 ∨ q = o0 + 13 ∨ q = o0 + 14 ∨ (q = o0 ∧ j = 23) ∨ (q = o0 ∧ j = 24) ∨ (q = o0 ∧ j = 30) ∨ (q = o0 ∧ j = 31) ∨ (q = o0 ∧ j = 32) ∨ (q = o0 ∧ j = 33) ∨ (q = o0 ∧ j = 34) ∨ (q = o0 ∧ j = 35) ∨ (q = o0 + 8 ∧ j = 1) ∨ (q = o0 + 8 ∧ j = 2) ∨ (q = o0 + 8 ∧ j = 3) ∨ (q = o0 + 8 ∧ j = 4) ∨ (q = o0 + 8 ∧ j = 5) ∨ (q = o0 + 8 ∧ j = 6) ∨ (q = o0 + 8 ∧ j = 7) ∨ (q = o0 + 8 ∧ j = 8) ∨ (q = o0 + 8 ∧ j = 9)) → I40 q j = I38 q j := fc_X_sitsAfter (fun q j => q = o0 + 1 ∨ q = o0 + 7 ∨ q = o0 + 9 ∨ q = o0 + 10 ∨ q = o0 + 11 ∨ q = o0 + 12 ∨ q = o0 + 13 ∨ q = o0 + 14 ∨ (q = o0 ∧ j = 23) ∨ (q = o0 ∧ j = 24) ∨ (q = o0 ∧ j = 30) ∨ (q = o0 ∧ j = 31) ∨ (q = o0 ∧ j = 32) ∨ (q = o0 ∧ j = 33) ∨ (q = o0 ∧ j = 34) ∨ (q = o0 ∧ j = 35) ∨ (q = o0 + 8 ∧ j = 1) ∨ (q = o0 + 8 ∧ j = 2) ∨ (q = o0 + 8 ∧ j = 3) ∨ (q = o0 + 8 ∧ j = 4) ∨ (q = o0 + 8 ∧ j = 5) ∨ (q = o0 + 8 ∧ j = 6) ∨ (q = o0 + 8 ∧ j = 7) ∨ (q = o0 + 8 ∧ j = 8) ∨ (q = o0 + 8 ∧ j = 9)) fu o0 y1 I38 (fun _ => by simp) (fun _ => by simp) (fun _ => by simp) (fun _ => by simp) (fun _ => by simp) (fun _ => by simp) (fun _ => by simp) (fun _ => by simp) (by simp) (by simp) (by simp) (by simp) (by simp) (by simp) (by simp) (by simp) (by simp) (by simp) (by simp) (by simp) (by simp) (by simp) (by simp) (by simp) (by simp) c_13
    have hcb : ∀ q j, (q = o0 + 3 ∨ q = o0 + 23 ∨ q = o0 + 24 ∨ (q = o0 ∧ j = 50)) → I40 q j = I12 q j := fun q j h => (fI40 q j (by omega)).trans (by rw [eI38, if_neg (by omega), fI36 _ _ (by omega), eI22, if_neg (by omega), eI17, if_neg (by omega)])
    have hwx := wx_so hRI0 pI12 hcb
    refine sat_zb (ok_X_comesBack fu o0 I40 hfu hRI40 (by first | omega | (simp (disch := omega) only [wr32_i2, wdiv_i2, wrem_i2]; omega) | grind | grind [wr32])) (fun u_14 I43 c_15 ⟨⟨au_14, bu_14⟩, hRI43, pI43⟩ => ?_)
    have fI43 : ∀ q j, ¬ (q = o0 + 1 ∨ q = o0 + 13 ∨ q = o0 + 15 ∨ (q = o0 ∧ j = 35)) → I43 q j = I40 q j := fc_X_comesBack (fun q j => q = o0 + 1 ∨ q = o0 + 13 ∨ q = o0 + 15 ∨ (q = o0 ∧ j = 35)) fu o0 I40 (fun _ => by simp) (fun _ => by simp) (fun _ => by simp) (by simp) c_15
    exact sat_zr ⟨⟨ay39, by39⟩, hRI43, (sa_so pI12 hcb pI43)⟩
theorem ok_X_together (fu : Nat) (o0 : Nat) (a1 : Int) (a2 : Int) (a3 : Int) (a4 : Int) (a5 : Int) (I0 : IMem) (hfu : 5000000000 < fu) (hRI0 : GX o0 I0) (qa1 : inr a1) (qa2 : inr a2) (qa3 : inr a3) (qa4 : inr a4) (qa5 : inr a5) (hc : I0 (o0 + 1) 70 < 1900000000) : sat (f_X_together fu o0 a1 a2 a3 a4 a5 I0) (fun v I => inr v ∧ GX o0 I ∧ (SA o0 I0 I)) := by
  unfold f_X_together
  obtain ⟨aa1, ba1⟩ := qa1
  obtain ⟨aa2, ba2⟩ := qa2
  obtain ⟨aa3, ba3⟩ := qa3
  obtain ⟨aa4, ba4⟩ := qa4
  obtain ⟨aa5, ba5⟩ := qa5
  refine sat_zb (ok_X_isPlain fu o0 a1 a2 I0 hfu hRI0 ⟨aa1, ba1⟩ ⟨aa2, ba2⟩) (fun y1 I2 c_1 ⟨⟨ay1, by1⟩, _, pI2⟩ => ?_)
  have eI2 := pI2.1.symm; replace pI2 := pI2.2; subst eI2
  refine sat_ite (fun q_2 => ?_) (fun q_2 => ?_)
  · exact sat_zr ⟨(lit_in rfl), hRI0, (by first | exact sa_t (sa_t pI19 pI22) pI25 | exact pI19 | exact sa_rfl)⟩
  · refine sat_zb (ok_X_isPlain fu o0 a3 a4 I0 hfu hRI0 ⟨aa3, ba3⟩ ⟨aa4, ba4⟩) (fun y4 I5 c_3 ⟨⟨ay4, by4⟩, _, pI5⟩ => ?_)
    have eI5 := pI5.1.symm; replace pI5 := pI5.2; subst eI5
    refine sat_ite (fun q_4 => ?_) (fun q_4 => ?_)
    · exact sat_zr ⟨(lit_in rfl), hRI0, (by first | exact sa_t (sa_t pI19 pI22) pI25 | exact pI19 | exact sa_rfl)⟩
    · refine sat_zj (fun k7 ek7 => ?_)
      have hk7 : ∀ (I8 : IMem), GX o0 I8 → (I8 = I0 ∧ (True)) → sat (k7 I8) (fun v I => inr v ∧ GX o0 I ∧ (SA o0 I0 I)) := by
        intro I8  hRI8 jk7
        subst ek7
        have ejk7 := jk7.1.symm; replace jk7 := jk7.2; subst ejk7
        refine sat_zb (ok_X_of fu o0 a1 a2 1 I0 hfu hRI0 ⟨aa1, ba1⟩ ⟨aa2, ba2⟩ (lit_in rfl) (by first | omega | (simp (disch := omega) only [wr32_i2, wdiv_i2, wrem_i2]; omega) | grind | grind [wr32])) (fun y9 I10 c_5 ⟨⟨ay9, by9⟩, _, pI10⟩ => ?_)
        have eI10 := pI10.1.symm; replace pI10 := pI10.2; subst eI10
        refine sat_zb (ok_X_of fu o0 a3 a4 1 I0 hfu hRI0 ⟨aa3, ba3⟩ ⟨aa4, ba4⟩ (lit_in rfl) (by first | omega | (simp (disch := omega) only [wr32_i2, wdiv_i2, wrem_i2]; omega) | grind | grind [wr32])) (fun y12 I13 c_6 ⟨⟨ay12, by12⟩, _, pI13⟩ => ?_)
        have eI13 := pI13.1.symm; replace pI13 := pI13.2; subst eI13
        refine sat_ite (fun q_7 => ?_) (fun q_7 => ?_)
        · try simp (disch := omega) only [wr32_i2, wdiv_i2, wrem_i2] at q_7
          exact sat_zr ⟨(lit_in rfl), hRI0, (by first | exact sa_t (sa_t pI19 pI22) pI25 | exact pI19 | exact sa_rfl)⟩
        · try simp (disch := omega) only [wr32_i2, wdiv_i2, wrem_i2] at q_7
          refine sat_zb (ok_X_isIn fu a5 0 1 I0 hfu hRI0.1 ⟨aa5, ba5⟩ (lit_in rfl) (lit_in rfl)) (fun y15 I16 c_8 ⟨⟨ay15, by15⟩, _, pI16⟩ => ?_)
          have eI16 := pI16.1.symm; replace pI16 := pI16.2; subst eI16
          refine sat_ite (fun q_9 => ?_) (fun q_9 => ?_)
          · exact sat_zr ⟨(lit_in rfl), hRI0, (by first | exact sa_t (sa_t pI19 pI22) pI25 | exact pI19 | exact sa_rfl)⟩
          · refine sat_zb (ok_X_joined fu o0 a1 a2 a3 a4 I0 hfu hRI0 ⟨aa1, ba1⟩ ⟨aa2, ba2⟩ ⟨aa3, ba3⟩ ⟨aa4, ba4⟩ (by first | omega | (simp (disch := omega) only [wr32_i2, wdiv_i2, wrem_i2]; omega) | grind | grind [wr32]) (by first | omega | (simp (disch := omega) only [wr32_i2, wdiv_i2, wrem_i2]; omega) | grind | grind [wr32]) (by first | omega | (simp (disch := omega) only [wr32_i2, wdiv_i2, wrem_i2]; omega) | grind | grind [wr32])) (fun y18 I19 c_10 ⟨⟨ay18, by18⟩, hRI19, pI19⟩ => ?_)
            have fI19 : ∀ q j, ¬ (q = o0 + 1 ∨ q = o0 + 3 ∨ q = o0 + 7 ∨ q = o0 + 9 ∨ q = o0 + 10 ∨ q = o0 + 11 ∨ q = o0 + 12 ∨ q = o0 + 13 ∨ q = o0 + 14 ∨ q = o0 + 15 ∨ q = o0 + 23 ∨ q = o0 + 24 ∨ (q = o0 ∧ j = 23) ∨ (q = o0 ∧ j = 24) ∨ (q = o0 ∧ j = 30) ∨ (q = o0 ∧ j = 31) ∨ (q = o0 ∧ j = 32) ∨ (q = o0 ∧ j = 33) ∨ (q = o0 ∧ j = 34) ∨ (q = o0 ∧ j = 35) ∨ (q = o0 ∧ j = 50) ∨ (q = o0 + 8 ∧ j = 1) ∨ (q = o0 + 8 ∧ j = 2) ∨ (q = o0 + 8 ∧ j = 3) ∨ (q = o0 + 8 ∧ j = 4) ∨ (q = o0 + 8 ∧ j = 5) ∨ (q = o0 + 8 ∧ j = 6) ∨ (q = o0 + 8 ∧ j = 7) ∨ (q = o0 + 8 ∧ j = 8) ∨ (q = o0 + 8 ∧ j = 9)) → I19 q j = I0 q j := fc_X_joined (fun q j => q = o0 + 1 ∨ q = o0 + 3 ∨ q = o0 + 7 ∨ q = o0 + 9 ∨ q = o0 + 10 ∨ q = o0 + 11 ∨ q = o0 + 12 ∨ q = o0 + 13 ∨ q = o0 + 14 ∨ q = o0 + 15 ∨ q = o0 + 23 ∨ q = o0 + 24 ∨ (q = o0 ∧ j = 23) ∨ (q = o0 ∧ j = 24) ∨ (q = o0 ∧ j = 30) ∨ (q = o0 ∧ j = 31) ∨ (q = o0 ∧ j = 32) ∨ (q = o0 ∧ j = 33) ∨ (q = o0 ∧ j = 34) ∨ (q = o0 ∧ j = 35) ∨ (q = o0 ∧ j = 50) ∨ (q = o0 + 8 ∧ j = 1) ∨ (q = o0 + 8 ∧ j = 2) ∨ (q = o0 + 8 ∧ j = 3) ∨ (q = o0 + 8 ∧ j = 4) ∨ (q = o0 + 8 ∧ j = 5) ∨ (q = o0 + 8 ∧ j = 6) ∨ (q = o0 + 8 ∧ j = 7) ∨ (q = o0 + 8 ∧ j = 8) ∨ (q = o0 + 8 ∧ j = 9)) fu o0 a1 a2 a3 a4 I0 (fun _ => by simp) (fun _ => by simp) (fun _ => by simp) (fun _ => by simp) (fun _ => by simp) (fun _ => by simp) (fun _ => by simp) (fun _ => by simp) (fun _ => by simp) (fun _ => by simp) (fun _ => by simp) (fun _ => by simp) (by simp) (by simp) (by simp) (by simp) (by simp) (by simp) (by simp) (by simp) (by simp) (by simp) (by simp) (by simp) (by simp) (by simp) (by simp) (by simp) (by simp) (by simp) c_10
            have hcI19 := pI19.1 70 (by decide)
            refine sat_ite (fun q_11 => ?_) (fun q_11 => ?_)
            · exact sat_zr ⟨⟨ay18, by18⟩, hRI19, (by first | exact sa_t (sa_t pI19 pI22) pI25 | exact pI19 | exact sa_rfl)⟩
            · refine sat_zb (ok_X_till fu o0 a1 a2 I19 hfu hRI19 ⟨aa1, ba1⟩ ⟨aa2, ba2⟩ (by first | omega | (simp (disch := omega) only [wr32_i2, wdiv_i2, wrem_i2]; omega) | grind | grind [wr32])) (fun y21 I22 c_12 ⟨⟨ay21, by21⟩, hRI22, pI22⟩ => ?_)
              have fI22 : ∀ q j, ¬ (q = o0 + 1 ∨ q = o0 + 3 ∨ q = o0 + 7 ∨ q = o0 + 9 ∨ q = o0 + 10 ∨ q = o0 + 11 ∨ q = o0 + 12 ∨ q = o0 + 13 ∨ q = o0 + 14 ∨ q = o0 + 15 ∨ q = o0 + 23 ∨ q = o0 + 24 ∨ (q = o0 ∧ j = 23) ∨ (q = o0 ∧ j = 24) ∨ (q = o0 ∧ j = 30) ∨ (q = o0 ∧ j = 31) ∨ (q = o0 ∧ j = 32) ∨ (q = o0 ∧ j = 33) ∨ (q = o0 ∧ j = 34) ∨ (q = o0 ∧ j = 35) ∨ (q = o0 ∧ j = 50) ∨ (q = o0 + 8 ∧ j = 1) ∨ (q = o0 + 8 ∧ j = 2) ∨ (q = o0 + 8 ∧ j = 3) ∨ (q = o0 + 8 ∧ j = 4) ∨ (q = o0 + 8 ∧ j = 5) ∨ (q = o0 + 8 ∧ j = 6) ∨ (q = o0 + 8 ∧ j = 7) ∨ (q = o0 + 8 ∧ j = 8) ∨ (q = o0 + 8 ∧ j = 9)) → I22 q j = I19 q j := fc_X_till (fun q j => q = o0 + 1 ∨ q = o0 + 3 ∨ q = o0 + 7 ∨ q = o0 + 9 ∨ q = o0 + 10 ∨ q = o0 + 11 ∨ q = o0 + 12 ∨ q = o0 + 13 ∨ q = o0 + 14 ∨ q = o0 + 15 ∨ q = o0 + 23 ∨ q = o0 + 24 ∨ (q = o0 ∧ j = 23) ∨ (q = o0 ∧ j = 24) ∨ (q = o0 ∧ j = 30) ∨ (q = o0 ∧ j = 31) ∨ (q = o0 ∧ j = 32) ∨ (q = o0 ∧ j = 33) ∨ (q = o0 ∧ j = 34) ∨ (q = o0 ∧ j = 35) ∨ (q = o0 ∧ j = 50) ∨ (q = o0 + 8 ∧ j = 1) ∨ (q = o0 + 8 ∧ j = 2) ∨ (q = o0 + 8 ∧ j = 3) ∨ (q = o0 + 8 ∧ j = 4) ∨ (q = o0 + 8 ∧ j = 5) ∨ (q = o0 + 8 ∧ j = 6) ∨ (q = o0 + 8 ∧ j = 7) ∨ (q = o0 + 8 ∧ j = 8) ∨ (q = o0 + 8 ∧ j = 9)) fu o0 a1 a2 I19 (fun _ => by simp) (fun _ => by simp) (fun _ => by simp) (fun _ => by simp) (fun _ => by simp) (fun _ => by simp) (fun _ => by simp) (fun _ => by simp) (fun _ => by simp) (fun _ => by simp) (fun _ => by simp) (fun _ => by simp) (by simp) (by simp) (by simp) (by simp) (by simp) (by simp) (by simp) (by simp) (by simp) (by simp) (by simp) (by simp) (by simp) (by simp) (by simp) (by simp) (by simp) (by simp) c_12
              have hcI22 := pI22.1 70 (by decide)
              refine sat_zb (ok_X_till fu o0 a3 a4 I22 hfu hRI22 ⟨aa3, ba3⟩ ⟨aa4, ba4⟩ (by first | omega | (simp (disch := omega) only [wr32_i2, wdiv_i2, wrem_i2]; omega) | grind | grind [wr32])) (fun y24 I25 c_13 ⟨⟨ay24, by24⟩, hRI25, pI25⟩ => ?_)
              have fI25 : ∀ q j, ¬ (q = o0 + 1 ∨ q = o0 + 3 ∨ q = o0 + 7 ∨ q = o0 + 9 ∨ q = o0 + 10 ∨ q = o0 + 11 ∨ q = o0 + 12 ∨ q = o0 + 13 ∨ q = o0 + 14 ∨ q = o0 + 15 ∨ q = o0 + 23 ∨ q = o0 + 24 ∨ (q = o0 ∧ j = 23) ∨ (q = o0 ∧ j = 24) ∨ (q = o0 ∧ j = 30) ∨ (q = o0 ∧ j = 31) ∨ (q = o0 ∧ j = 32) ∨ (q = o0 ∧ j = 33) ∨ (q = o0 ∧ j = 34) ∨ (q = o0 ∧ j = 35) ∨ (q = o0 ∧ j = 50) ∨ (q = o0 + 8 ∧ j = 1) ∨ (q = o0 + 8 ∧ j = 2) ∨ (q = o0 + 8 ∧ j = 3) ∨ (q = o0 + 8 ∧ j = 4) ∨ (q = o0 + 8 ∧ j = 5) ∨ (q = o0 + 8 ∧ j = 6) ∨ (q = o0 + 8 ∧ j = 7) ∨ (q = o0 + 8 ∧ j = 8) ∨ (q = o0 + 8 ∧ j = 9)) → I25 q j = I22 q j := fc_X_till (fun q j => q = o0 + 1 ∨ q = o0 + 3 ∨ q = o0 + 7 ∨ q = o0 + 9 ∨ q = o0 + 10 ∨ q = o0 + 11 ∨ q = o0 + 12 ∨ q = o0 + 13 ∨ q = o0 + 14 ∨ q = o0 + 15 ∨ q = o0 + 23 ∨ q = o0 + 24 ∨ (q = o0 ∧ j = 23) ∨ (q = o0 ∧ j = 24) ∨ (q = o0 ∧ j = 30) ∨ (q = o0 ∧ j = 31) ∨ (q = o0 ∧ j = 32) ∨ (q = o0 ∧ j = 33) ∨ (q = o0 ∧ j = 34) ∨ (q = o0 ∧ j = 35) ∨ (q = o0 ∧ j = 50) ∨ (q = o0 + 8 ∧ j = 1) ∨ (q = o0 + 8 ∧ j = 2) ∨ (q = o0 + 8 ∧ j = 3) ∨ (q = o0 + 8 ∧ j = 4) ∨ (q = o0 + 8 ∧ j = 5) ∨ (q = o0 + 8 ∧ j = 6) ∨ (q = o0 + 8 ∧ j = 7) ∨ (q = o0 + 8 ∧ j = 8) ∨ (q = o0 + 8 ∧ j = 9)) fu o0 a3 a4 I22 (fun _ => by simp) (fun _ => by simp) (fun _ => by simp) (fun _ => by simp) (fun _ => by simp) (fun _ => by simp) (fun _ => by simp) (fun _ => by simp) (fun _ => by simp) (fun _ => by simp) (fun _ => by simp) (fun _ => by simp) (by simp) (by simp) (by simp) (by simp) (by simp) (by simp) (by simp) (by simp) (by simp) (by simp) (by simp) (by simp) (by simp) (by simp) (by simp) (by simp) (by simp) (by simp) c_13
              have hcI25 := pI25.1 70 (by decide)
              refine sat_ite (fun q_14 => ?_) (fun q_14 => ?_)
              · exact sat_zr ⟨(lit_in rfl), hRI25, (by first | exact sa_t (sa_t pI19 pI22) pI25 | exact pI19 | exact sa_rfl)⟩
              · refine sat_ite (fun q_15 => ?_) (fun q_15 => ?_)
                · exact sat_zr ⟨(lit_in rfl), hRI25, (by first | exact sa_t (sa_t pI19 pI22) pI25 | exact pI19 | exact sa_rfl)⟩
                · refine sat_ite (fun q_16 => ?_) (fun q_16 => ?_)
                  · exact sat_zr ⟨(lit_in rfl), hRI25, (by first | exact sa_t (sa_t pI19 pI22) pI25 | exact pI19 | exact sa_rfl)⟩
                  · refine sat_zj (fun k27 ek27 => ?_)
                    have hk27 : ∀ (x29 : Int) (I28 : IMem), inr x29 → GX o0 I28 → (I28 = I25 ∧ (True)) → sat (k27 x29 I28) (fun v I => inr v ∧ GX o0 I ∧ (SA o0 I0 I)) := by
                      intro x29 I28 ⟨ax29, bx29⟩ hRI28 jk27
                      subst ek27
                      have ejk27 := jk27.1.symm; replace jk27 := jk27.2; subst ejk27
                      refine sat_ite (fun q_17 => ?_) (fun q_17 => ?_)
                      · exact sat_zr ⟨(lit_in rfl), hRI25, (by first | exact sa_t (sa_t pI19 pI22) pI25 | exact pI19 | exact sa_rfl)⟩
                      · exact sat_zr ⟨(lit_in rfl), hRI25, (by first | exact sa_t (sa_t pI19 pI22) pI25 | exact pI19 | exact sa_rfl)⟩
                    clear ek27
                    refine sat_ite (fun q_18 => ?_) (fun q_18 => ?_)
                    · exact hk27 y21 I25 ⟨ay21, by21⟩ hRI25 ⟨rfl, trivial⟩
                    · exact hk27 y24 I25 ⟨ay24, by24⟩ hRI25 ⟨rfl, trivial⟩
      clear ek7
      refine sat_ite (fun q_19 => ?_) (fun q_19 => ?_)
      · refine sat_ite (fun q_20 => ?_) (fun q_20 => ?_)
        · exact sat_zr ⟨(lit_in rfl), hRI0, (by first | exact sa_t (sa_t pI19 pI22) pI25 | exact pI19 | exact sa_rfl)⟩
        · exact hk7 I0 hRI0 ⟨rfl, trivial⟩
      · exact hk7 I0 hRI0 ⟨rfl, trivial⟩
