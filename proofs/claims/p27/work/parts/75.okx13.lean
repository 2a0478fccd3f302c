/-! safety of the reference -/
theorem ok_X_isThere (fu : Nat) (o0 : Nat) (a1 : Int) (a2 : Int) (I0 : IMem) (hfu : 5000000000 < fu) (hRI0 : GX o0 I0) (qa1 : inr a1) (qa2 : inr a2) : sat (f_X_isThere fu o0 a1 a2 I0) (fun v I => inr v ∧ GX o0 I ∧ (I = I0 ∧ ((v = 0 ∨ v = 1) ∧ (v = 1 → 0 ≤ a1 ∧ a1 < 6 ∧ 0 ≤ a2 ∧ a2 < I0 (o0 + 1) (130 + a1).toNat ∧ a2 < 40)))) := by
  unfold f_X_isThere
  obtain ⟨aa1, ba1⟩ := qa1
  obtain ⟨aa2, ba2⟩ := qa2
  refine sat_zb (ok_X_isLine fu a1 I0 hfu hRI0.1 ⟨aa1, ba1⟩) (fun y1 I2 c_1 ⟨⟨ay1, by1⟩, _, pI2⟩ => ?_)
  have eI2 := pI2.1.symm; replace pI2 := pI2.2; subst eI2
  refine sat_ite (fun q_2 => ?_) (fun q_2 => ?_)
  · exact sat_zr ⟨(lit_in rfl), hRI0, ⟨rfl, (by first | omega | (simp (disch := omega) only [wr32_i2, wdiv_i2, wrem_i2]; omega) | grind | grind [wr32])⟩⟩
  · refine sat_zl (wr32_in _) (fun x4 hx4 ax4 bx4 => ?_)
    try simp (disch := omega) only [wr32_i2, wdiv_i2, wrem_i2] at hx4
    refine sat_zg (by first | omega | grind | grind [wr32]) (fun g_3 => ?_)
    have ⟨r_5a, r_5b⟩ : -2147483648 ≤ I0 (o0 + 1) x4.toNat ∧ I0 (o0 + 1) x4.toNat < 2147483648 := hRI0.1 (o0 + 1) x4.toNat
    try have r_5many := gx_many hRI0 x4.toNat (by omega) (by omega)
    try have r_5seen := gx_seen hRI0 x4.toNat (by omega) (by omega)
    try have r_5part := gx_part hRI0 x4.toNat (by omega) (by omega)
    try have r_5rows := gx_rows hRI0 x4.toNat (by omega) (by omega) (by omega)
    refine sat_zb (ok_X_isIn fu a2 0 (wr32 ((I0 (o0 + 1) x4.toNat) - 1)) I0 hfu hRI0.1 ⟨aa2, ba2⟩ (lit_in rfl) (wr32_in _)) (fun y5 I6 c_4 ⟨⟨ay5, by5⟩, _, pI6⟩ => ?_)
    have eI6 := pI6.1.symm; replace pI6 := pI6.2; subst eI6
    try simp (disch := omega) only [wr32_i2, wdiv_i2, wrem_i2] at pI6
    refine sat_ite (fun q_6 => ?_) (fun q_6 => ?_)
    · exact sat_zr ⟨(lit_in rfl), hRI0, ⟨rfl, (by first | omega | (simp (disch := omega) only [wr32_i2, wdiv_i2, wrem_i2]; omega) | grind | grind [wr32])⟩⟩
    · exact sat_zr ⟨(lit_in rfl), hRI0, ⟨rfl, (by first | omega | (simp (disch := omega) only [wr32_i2, wdiv_i2, wrem_i2]; omega) | grind | grind [wr32])⟩⟩
theorem ok_X_stillStands_10 {Ib : IMem} (fu : Nat) (k_43 : IMem → Res) (o0 : Nat) (p1 : Int) (p2 : Int) (hfu : 5000000000 < fu) (qp1 : inr p1) (qp2 : inr p2) (hp2 : 0 ≤ p2 ∧ p2 < 6) {Q_ : Int → IMem → Prop} (hk_43 : ∀ (I9 : IMem), GX o0 I9 → (I9 = Ib ∧ (True)) → sat (k_43 I9) Q_) (hret : ∀ v I, inr v → GX o0 I → (I = Ib ∧ (True)) → sat (zr v I) Q_) : ∀ (m : Nat) (w3 : Int) (I0 : IMem), inr w3 → GX o0 I0 → (I0 = Ib ∧ (0 ≤ w3 ∧ w3 ≤ 40)) → (41 - w3).toNat < m → sat (f_X_stillStands_10 fu k_43 o0 p1 p2 m w3 I0) Q_ := by
  intro m
  induction m with
  | zero => intro w3 I0 _ _ _ h0; exact absurd h0 (Nat.not_lt_zero _)
  | succ m hR_ =>
    intro w3 I0 ⟨aw3, bw3⟩ hRI0 hinv hmeas
    have einv := hinv.1; replace hinv := hinv.2; subst einv
    show sat (fb_X_stillStands_10 fu k_43 o0 p1 p2 (f_X_stillStands_10 fu k_43 o0 p1 p2 m) w3 I0) Q_
    unfold fb_X_stillStands_10
    obtain ⟨ap1, bp1⟩ := qp1
    obtain ⟨ap2, bp2⟩ := qp2
    refine sat_zl (wr32_in _) (fun x1 hx1 ax1 bx1 => ?_)
    try simp (disch := omega) only [wr32_i2, wdiv_i2, wrem_i2] at hx1
    refine sat_zg (by first | omega | grind | grind [wr32]) (fun g_1 => ?_)
    have ⟨r_2a, r_2b⟩ : -2147483648 ≤ I0 (o0 + 1) x1.toNat ∧ I0 (o0 + 1) x1.toNat < 2147483648 := hRI0.1 (o0 + 1) x1.toNat
    try have r_2many := gx_many hRI0 x1.toNat (by omega) (by omega)
    try have r_2seen := gx_seen hRI0 x1.toNat (by omega) (by omega)
    try have r_2part := gx_part hRI0 x1.toNat (by omega) (by omega)
    try have r_2rows := gx_rows hRI0 x1.toNat (by omega) (by omega) (by omega)
    refine sat_ite (fun q_3 => ?_) (fun q_3 => ?_)
    · refine sat_zb (ok_X_of fu o0 p2 w3 0 I0 hfu hRI0 ⟨ap2, bp2⟩ ⟨aw3, bw3⟩ (lit_in rfl) (by first | omega | (simp (disch := omega) only [wr32_i2, wdiv_i2, wrem_i2]; omega) | grind | grind [wr32])) (fun y2 I3 c_4 ⟨⟨ay2, by2⟩, _, pI3⟩ => ?_)
      have eI3 := pI3.1.symm; replace pI3 := pI3.2; subst eI3
      refine sat_ite (fun q_5 => ?_) (fun q_5 => ?_)
      · exact hret _ _ (lit_in rfl) hRI0 ⟨rfl, trivial⟩
      · refine sat_zl (wr32_in _) (fun x5 hx5 ax5 bx5 => ?_)
        try simp (disch := omega) only [wr32_i2, wdiv_i2, wrem_i2] at hx5
        exact hR_ x5 I0 ⟨ax5, bx5⟩ hRI0 ⟨rfl, (by first | omega | (simp (disch := omega) only [wr32_i2, wdiv_i2, wrem_i2]; omega) | grind | grind [wr32])⟩ (by first | omega | (simp (disch := omega) only [wr32_i2, wdiv_i2, wrem_i2]; omega) | grind | grind [wr32])
    · exact hk_43 I0 hRI0 ⟨rfl, trivial⟩
theorem ok_X_stillStands_2 {Ib : IMem} (fu : Nat) (o0 : Nat) (p1 : Int) (hfu : 5000000000 < fu) (qp1 : inr p1) {Q_ : Int → IMem → Prop} (hret : ∀ v I, inr v → GX o0 I → (I = Ib ∧ (True)) → sat (zr v I) Q_) : ∀ (m : Nat) (w2 : Int) (I0 : IMem), inr w2 → GX o0 I0 → (I0 = Ib ∧ (0 ≤ w2)) → (6 - w2).toNat < m → sat (f_X_stillStands_2 fu o0 p1 m w2 I0) Q_ := by
  intro m
  induction m with
  | zero => intro w2 I0 _ _ _ h0; exact absurd h0 (Nat.not_lt_zero _)
  | succ m hR_ =>
    intro w2 I0 ⟨aw2, bw2⟩ hRI0 hinv hmeas
    have einv := hinv.1; replace hinv := hinv.2; subst einv
    show sat (fb_X_stillStands_2 fu o0 p1 (f_X_stillStands_2 fu o0 p1 m) w2 I0) Q_
    unfold fb_X_stillStands_2
    obtain ⟨ap1, bp1⟩ := qp1
    refine sat_ite (fun q_1 => ?_) (fun q_1 => ?_)
    · refine ok_X_stillStands_10 (Ib := I0) fu _ o0 p1 w2 hfu ⟨ap1, bp1⟩ ⟨aw2, bw2⟩ (by first | omega | (simp (disch := omega) only [wr32_i2, wdiv_i2, wrem_i2]; omega) | grind | grind [wr32]) ?_ (fun v I h1 h2 h3 => hret v I h1 h2 ⟨h3.1, (by have h4 := h3.2; first | exact trivial | exact h4 | omega | grind)⟩) fu 0 I0 (lit_in rfl) hRI0 ⟨rfl, (by first | omega | (simp (disch := omega) only [wr32_i2, wdiv_i2, wrem_i2]; omega) | grind | grind [wr32])⟩ (by first | omega | (simp (disch := omega) only [wr32_i2, wdiv_i2, wrem_i2]; omega) | grind | grind [wr32])
      · intro I6  hRI6 xI6
        have exI6 := xI6.1.symm; replace xI6 := xI6.2; subst exI6
        refine sat_zl (wr32_in _) (fun x7 hx7 ax7 bx7 => ?_)
        try simp (disch := omega) only [wr32_i2, wdiv_i2, wrem_i2] at hx7
        exact hR_ x7 I0 ⟨ax7, bx7⟩ hRI0 ⟨rfl, (by first | omega | (simp (disch := omega) only [wr32_i2, wdiv_i2, wrem_i2]; omega) | grind | grind [wr32])⟩ (by first | omega | (simp (disch := omega) only [wr32_i2, wdiv_i2, wrem_i2]; omega) | grind | grind [wr32])
    · exact hret _ _ (lit_in rfl) hRI0 ⟨rfl, trivial⟩
theorem ok_X_stillStands (fu : Nat) (o0 : Nat) (a1 : Int) (I0 : IMem) (hfu : 5000000000 < fu) (hRI0 : GX o0 I0) (qa1 : inr a1) : sat (f_X_stillStands fu o0 a1 I0) (fun v I => inr v ∧ GX o0 I ∧ (I = I0 ∧ (True))) := by
  unfold f_X_stillStands
  obtain ⟨aa1, ba1⟩ := qa1
  refine ok_X_stillStands_2 (Ib := I0) fu o0 a1 hfu ⟨aa1, ba1⟩ (fun v I h1 h2 h3 => sat_zr ⟨h1, h2, ⟨h3.1, (by have h4 := h3.2; first | exact trivial | exact h4 | omega | grind)⟩⟩) fu 0 I0 (lit_in rfl) hRI0 ⟨rfl, (by first | omega | (simp (disch := omega) only [wr32_i2, wdiv_i2, wrem_i2]; omega) | grind | grind [wr32])⟩ (by first | omega | (simp (disch := omega) only [wr32_i2, wdiv_i2, wrem_i2]; omega) | grind | grind [wr32])
theorem ok_X_sitsAfter_12 {Ib : IMem} (fu : Nat) (k_37 : Int → IMem → Res) (o0 : Nat) (p1 : Int) (hfu : 5000000000 < fu) (qp1 : inr p1) (hc : Ib (o0 + 1) 70 < 1900000000) {Q_ : Int → IMem → Prop} (hk_37 : ∀ (z0 : Int) (I9 : IMem), inr z0 → GX o0 I9 → ((∀ q j, ¬ (q = o0 + 1 ∨ q = o0 + 7 ∨ q = o0 + 9 ∨ q = o0 + 10 ∨ q = o0 + 11 ∨ q = o0 + 12 ∨ q = o0 + 13 ∨ q = o0 + 14 ∨ (q = o0 ∧ j = 24) ∨ (q = o0 ∧ j = 30) ∨ (q = o0 ∧ j = 31) ∨ (q = o0 ∧ j = 32) ∨ (q = o0 ∧ j = 33) ∨ (q = o0 ∧ j = 34) ∨ (q = o0 ∧ j = 35) ∨ (q = o0 + 8 ∧ j = 1) ∨ (q = o0 + 8 ∧ j = 2) ∨ (q = o0 + 8 ∧ j = 3) ∨ (q = o0 + 8 ∧ j = 4) ∨ (q = o0 + 8 ∧ j = 5) ∨ (q = o0 + 8 ∧ j = 6) ∨ (q = o0 + 8 ∧ j = 7) ∨ (q = o0 + 8 ∧ j = 8) ∨ (q = o0 + 8 ∧ j = 9)) → I9 q j = Ib q j) ∧ (True)) → sat (k_37 z0 I9) Q_) (hret : ∀ v I, inr v → GX o0 I → ((∀ q j, ¬ (q = o0 + 1 ∨ q = o0 + 7 ∨ q = o0 + 9 ∨ q = o0 + 10 ∨ q = o0 + 11 ∨ q = o0 + 12 ∨ q = o0 + 13 ∨ q = o0 + 14 ∨ (q = o0 ∧ j = 24) ∨ (q = o0 ∧ j = 30) ∨ (q = o0 ∧ j = 31) ∨ (q = o0 ∧ j = 32) ∨ (q = o0 ∧ j = 33) ∨ (q = o0 ∧ j = 34) ∨ (q = o0 ∧ j = 35) ∨ (q = o0 + 8 ∧ j = 1) ∨ (q = o0 + 8 ∧ j = 2) ∨ (q = o0 + 8 ∧ j = 3) ∨ (q = o0 + 8 ∧ j = 4) ∨ (q = o0 + 8 ∧ j = 5) ∨ (q = o0 + 8 ∧ j = 6) ∨ (q = o0 + 8 ∧ j = 7) ∨ (q = o0 + 8 ∧ j = 8) ∨ (q = o0 + 8 ∧ j = 9)) → I q j = Ib q j) ∧ (False)) → sat (zr v I) Q_) : ∀ (m : Nat) (w2 : Int) (I0 : IMem), inr w2 → GX o0 I0 → ((∀ q j, ¬ (q = o0 + 1 ∨ q = o0 + 7 ∨ q = o0 + 9 ∨ q = o0 + 10 ∨ q = o0 + 11 ∨ q = o0 + 12 ∨ q = o0 + 13 ∨ q = o0 + 14 ∨ (q = o0 ∧ j = 24) ∨ (q = o0 ∧ j = 30) ∨ (q = o0 ∧ j = 31) ∨ (q = o0 ∧ j = 32) ∨ (q = o0 ∧ j = 33) ∨ (q = o0 ∧ j = 34) ∨ (q = o0 ∧ j = 35) ∨ (q = o0 + 8 ∧ j = 1) ∨ (q = o0 + 8 ∧ j = 2) ∨ (q = o0 + 8 ∧ j = 3) ∨ (q = o0 + 8 ∧ j = 4) ∨ (q = o0 + 8 ∧ j = 5) ∨ (q = o0 + 8 ∧ j = 6) ∨ (q = o0 + 8 ∧ j = 7) ∨ (q = o0 + 8 ∧ j = 8) ∨ (q = o0 + 8 ∧ j = 9)) → I0 q j = Ib q j) ∧ (0 ≤ w2 ∧ w2 ≤ 40 ∧ I0 (o0 + 1) 70 = Ib (o0 + 1) 70 + w2)) → (40 - w2).toNat < m → sat (f_X_sitsAfter_12 fu k_37 o0 p1 m w2 I0) Q_ := by
  intro m
  induction m with
  | zero => intro w2 I0 _ _ _ h0; exact absurd h0 (Nat.not_lt_zero _)
  | succ m hR_ =>
    intro w2 I0 ⟨aw2, bw2⟩ hRI0 hinv hmeas
    have fI0 := hinv.1; replace hinv := hinv.2
    show sat (fb_X_sitsAfter_12 fu k_37 o0 p1 (f_X_sitsAfter_12 fu k_37 o0 p1 m) w2 I0) Q_
    unfold fb_X_sitsAfter_12
    obtain ⟨ap1, bp1⟩ := qp1
    refine sat_ite (fun q_1 => ?_) (fun q_1 => ?_)
    · refine sat_zb (ok_X_stillStands fu o0 p1 I0 hfu hRI0 ⟨ap1, bp1⟩) (fun y3 I4 c_2 ⟨⟨ay3, by3⟩, _, pI4⟩ => ?_)
      have eI4 := pI4.1.symm; replace pI4 := pI4.2; subst eI4
      refine sat_ite (fun q_3 => ?_) (fun q_3 => ?_)
      · exact hk_37 w2 I0 ⟨aw2, bw2⟩ hRI0 ⟨(by intro q j hq; grind), trivial⟩
      · refine sat_zb (ok_X_chair fu o0 I0 hfu hRI0 (by first | omega | (simp (disch := omega) only [wr32_i2, wdiv_i2, wrem_i2]; omega) | grind | grind [wr32])) (fun y6 I7 c_4 ⟨⟨ay6, by6⟩, hRI7, pI7⟩ => ?_)
        have fI7 : ∀ q j, ¬ (q = o0 + 1 ∨ q = o0 + 7 ∨ q = o0 + 9 ∨ q = o0 + 10 ∨ q = o0 + 11 ∨ q = o0 + 12 ∨ q = o0 + 13 ∨ q = o0 + 14 ∨ (q = o0 ∧ j = 24) ∨ (q = o0 ∧ j = 30) ∨ (q = o0 ∧ j = 31) ∨ (q = o0 ∧ j = 32) ∨ (q = o0 ∧ j = 33) ∨ (q = o0 ∧ j = 34) ∨ (q = o0 ∧ j = 35) ∨ (q = o0 + 8 ∧ j = 1) ∨ (q = o0 + 8 ∧ j = 2) ∨ (q = o0 + 8 ∧ j = 3) ∨ (q = o0 + 8 ∧ j = 4) ∨ (q = o0 + 8 ∧ j = 5) ∨ (q = o0 + 8 ∧ j = 6) ∨ (q = o0 + 8 ∧ j = 7) ∨ (q = o0 + 8 ∧ j = 8) ∨ (q = o0 + 8 ∧ j = 9)) → I7 q j = I0 q j := fc_X_chair (fun q j => q = o0 + 1 ∨ q = o0 + 7 ∨ q = o0 + 9 ∨ q = o0 + 10 ∨ q = o0 + 11 ∨ q = o0 + 12 ∨ q = o0 + 13 ∨ q = o0 + 14 ∨ (q = o0 ∧ j = 24) ∨ (q = o0 ∧ j = 30) ∨ (q = o0 ∧ j = 31) ∨ (q = o0 ∧ j = 32) ∨ (q = o0 ∧ j = 33) ∨ (q = o0 ∧ j = 34) ∨ (q = o0 ∧ j = 35) ∨ (q = o0 + 8 ∧ j = 1) ∨ (q = o0 + 8 ∧ j = 2) ∨ (q = o0 + 8 ∧ j = 3) ∨ (q = o0 + 8 ∧ j = 4) ∨ (q = o0 + 8 ∧ j = 5) ∨ (q = o0 + 8 ∧ j = 6) ∨ (q = o0 + 8 ∧ j = 7) ∨ (q = o0 + 8 ∧ j = 8) ∨ (q = o0 + 8 ∧ j = 9)) fu o0 I0 (fun _ => by simp) (fun _ => by simp) (fun _ => by simp) (fun _ => by simp) (fun _ => by simp) (fun _ => by simp) (fun _ => by simp) (fun _ => by simp) (by simp) (by simp) (by simp) (by simp) (by simp) (by simp) (by simp) (by simp) (by simp) (by simp) (by simp) (by simp) (by simp) (by simp) (by simp) (by simp) c_4
        refine sat_zl (wr32_in _) (fun x9 hx9 ax9 bx9 => ?_)
        try simp (disch := omega) only [wr32_i2, wdiv_i2, wrem_i2] at hx9
        exact hR_ x9 I7 ⟨ax9, bx9⟩ hRI7 ⟨(by intro q j hq; grind), ⟨by omega, by omega, by omega⟩⟩ (by first | omega | (simp (disch := omega) only [wr32_i2, wdiv_i2, wrem_i2]; omega) | grind | grind [wr32])
    · exact hk_37 w2 I0 ⟨aw2, bw2⟩ hRI0 ⟨(by intro q j hq; grind), trivial⟩
theorem ok_X_sitsAfter (fu : Nat) (o0 : Nat) (a1 : Int) (I0 : IMem) (hfu : 5000000000 < fu) (hRI0 : GX o0 I0) (qa1 : inr a1) (hc : I0 (o0 + 1) 70 < 1900000000) : sat (f_X_sitsAfter fu o0 a1 I0) (fun v I => inr v ∧ GX o0 I ∧ (True)) := by
  unfold f_X_sitsAfter
  obtain ⟨aa1, ba1⟩ := qa1
  refine sat_zwX0 hRI0 ⟨aa1, ba1⟩ (by first | omega | (simp (disch := omega) only [wr32_i2, wdiv_i2, wrem_i2]; omega) | grind | grind [wr32]) (fun I1 eI1 hRI1 => ?_)
  refine sat_zwX0 hRI1 (lit_in rfl) (by first | omega | (simp (disch := omega) only [wr32_i2, wdiv_i2, wrem_i2]; omega) | grind | grind [wr32]) (fun I2 eI2 hRI2 => ?_)
  refine ok_X_sitsAfter_12 (Ib := I2) fu _ o0 a1 hfu ⟨aa1, ba1⟩ (by first | omega | (simp (disch := omega) only [wr32_i2, wdiv_i2, wrem_i2]; omega) | grind | grind [wr32]) ?_ (fun v I h1 h2 h3 => sat_zr ⟨h1, h2, (by first | exact h3.elim | exact h3.2.elim)⟩) fu 0 I2 (lit_in rfl) hRI2 ⟨(fun _ _ _ => rfl), (by first | omega | (simp (disch := omega) only [wr32_i2, wdiv_i2, wrem_i2]; omega) | grind | grind [wr32])⟩ (by first | omega | (simp (disch := omega) only [wr32_i2, wdiv_i2, wrem_i2]; omega) | grind | grind [wr32])
  · intro x11 I10 ⟨ax11, bx11⟩ hRI10 xI10
    have fI10 := xI10.1; replace xI10 := xI10.2
    refine sat_zj (fun k12 ek12 => ?_)
    have hk12 : ∀ (x14 : Int) (I13 : IMem), inr x14 → GX o0 I13 → (I13 = I10 ∧ (True)) → sat (k12 x14 I13) (fun v I => inr v ∧ GX o0 I ∧ (True)) := by
      intro x14 I13 ⟨ax14, bx14⟩ hRI13 jk12
      subst ek12
      have ejk12 := jk12.1.symm; replace jk12 := jk12.2; subst ejk12
      refine sat_zwX0 hRI10 (lit_in rfl) (by first | omega | (simp (disch := omega) only [wr32_i2, wdiv_i2, wrem_i2]; omega) | grind | grind [wr32]) (fun I15 eI15 hRI15 => ?_)
      refine sat_ite (fun q_1 => ?_) (fun q_1 => ?_)
      · exact sat_zr ⟨⟨ax11, bx11⟩, hRI15, trivial⟩
      · exact sat_zr ⟨(lit_in rfl), hRI15, trivial⟩
    clear ek12
    have ⟨r_2a, r_2b⟩ : -2147483648 ≤ I10 o0 24 ∧ I10 o0 24 < 2147483648 := hRI10.1 o0 24
    refine sat_ite (fun q_3 => ?_) (fun q_3 => ?_)
    · refine sat_zb (ok_X_stillStands fu o0 a1 I10 hfu hRI10 ⟨aa1, ba1⟩) (fun y16 I17 c_4 ⟨⟨ay16, by16⟩, _, pI17⟩ => ?_)
      have eI17 := pI17.1.symm; replace pI17 := pI17.2; subst eI17
      refine sat_ite (fun q_5 => ?_) (fun q_5 => ?_)
      · exact hk12 0 I10 (lit_in rfl) hRI10 ⟨rfl, trivial⟩
      · exact hk12 1 I10 (lit_in rfl) hRI10 ⟨rfl, trivial⟩
    · exact hk12 1 I10 (lit_in rfl) hRI10 ⟨rfl, trivial⟩
