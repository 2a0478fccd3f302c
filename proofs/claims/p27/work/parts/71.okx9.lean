/-! safety of the reference -/
theorem ok_X_turn (fu : Nat) (o0 : Nat) (I0 : IMem) (hfu : 5000000000 < fu) (hRI0 : GX o0 I0) (hc : I0 (o0 + 1) 70 < 2000000000) : sat (f_X_turn fu o0 I0) (fun v I => inr v ∧ GX o0 I ∧ (I o0 35 = 0 ∧ I (o0 + 1) 70 = I0 (o0 + 1) 70 + 1 ∧ (∀ k : Nat, k < 240 → I (o0 + 13) k = 0))) := by
  unfold f_X_turn
  refine ok_X_turn_2 (Ib := I0) fu _ o0 hfu ?_ (fun v I h1 h2 h3 => sat_zr ⟨h1, h2, (by first | exact h3.elim | exact h3.2.elim)⟩) fu 0 I0 (lit_in rfl) hRI0 ⟨(fun _ _ _ => rfl), (by first | omega | (simp (disch := omega) only [wr32_i2, wdiv_i2, wrem_i2]; omega) | grind | grind [wr32])⟩ (by first | omega | (simp (disch := omega) only [wr32_i2, wdiv_i2, wrem_i2]; omega) | grind | grind [wr32])
  · intro I15  hRI15 xI15
    have fI15 := xI15.1; replace xI15 := xI15.2
    refine sat_zb (ok_X_chair fu o0 I15 hfu hRI15 (by first | omega | (simp (disch := omega) only [wr32_i2, wdiv_i2, wrem_i2]; omega) | grind | grind [wr32])) (fun y16 I17 c_1 ⟨⟨ay16, by16⟩, hRI17, pI17⟩ => ?_)
    have fI17 : ∀ q j, ¬ (q = o0 + 1 ∨ q = o0 + 7 ∨ q = o0 + 9 ∨ q = o0 + 10 ∨ q = o0 + 11 ∨ q = o0 + 12 ∨ q = o0 + 13 ∨ q = o0 + 14 ∨ (q = o0 ∧ j = 24) ∨ (q = o0 ∧ j = 30) ∨ (q = o0 ∧ j = 31) ∨ (q = o0 ∧ j = 32) ∨ (q = o0 ∧ j = 33) ∨ (q = o0 ∧ j = 34) ∨ (q = o0 ∧ j = 35) ∨ (q = o0 + 8 ∧ j = 1) ∨ (q = o0 + 8 ∧ j = 2) ∨ (q = o0 + 8 ∧ j = 3) ∨ (q = o0 + 8 ∧ j = 4) ∨ (q = o0 + 8 ∧ j = 5) ∨ (q = o0 + 8 ∧ j = 6) ∨ (q = o0 + 8 ∧ j = 7) ∨ (q = o0 + 8 ∧ j = 8) ∨ (q = o0 + 8 ∧ j = 9)) → I17 q j = I15 q j := fc_X_chair (fun q j => q = o0 + 1 ∨ q = o0 + 7 ∨ q = o0 + 9 ∨ q = o0 + 10 ∨ q = o0 + 11 ∨ q = o0 + 12 ∨ q = o0 + 13 ∨ q = o0 + 14 ∨ (q = o0 ∧ j = 24) ∨ (q = o0 ∧ j = 30) ∨ (q = o0 ∧ j = 31) ∨ (q = o0 ∧ j = 32) ∨ (q = o0 ∧ j = 33) ∨ (q = o0 ∧ j = 34) ∨ (q = o0 ∧ j = 35) ∨ (q = o0 + 8 ∧ j = 1) ∨ (q = o0 + 8 ∧ j = 2) ∨ (q = o0 + 8 ∧ j = 3) ∨ (q = o0 + 8 ∧ j = 4) ∨ (q = o0 + 8 ∧ j = 5) ∨ (q = o0 + 8 ∧ j = 6) ∨ (q = o0 + 8 ∧ j = 7) ∨ (q = o0 + 8 ∧ j = 8) ∨ (q = o0 + 8 ∧ j = 9)) fu o0 I15 (fun _ => by simp) (fun _ => by simp) (fun _ => by simp) (fun _ => by simp) (fun _ => by simp) (fun _ => by simp) (fun _ => by simp) (fun _ => by simp) (by simp) (by simp) (by simp) (by simp) (by simp) (by simp) (by simp) (by simp) (by simp) (by simp) (by simp) (by simp) (by simp) (by simp) (by simp) (by simp) c_1
    exact sat_zr ⟨⟨ay16, by16⟩, hRI17, ⟨pI17.1, pI17.2.1.trans (by omega), pI17.2.2⟩⟩
theorem ok_X_run_16 {Ib : IMem} (fu : Nat) (o0 : Nat) (p1 : Int) (hfu : 5000000000 < fu) (qp1 : inr p1) (hp : 1 ≤ p1 ∧ p1 ≤ 60) (hc : Ib (o0 + 1) 70 < 1900000000) {Q_ : Int → IMem → Prop} (hret : ∀ v I, inr v → GX o0 I → ((∀ q j, ¬ (q = o0 + 1 ∨ q = o0 + 7 ∨ q = o0 + 9 ∨ q = o0 + 10 ∨ q = o0 + 11 ∨ q = o0 + 12 ∨ q = o0 + 13 ∨ q = o0 + 14 ∨ (q = o0 ∧ j = 24) ∨ (q = o0 ∧ j = 30) ∨ (q = o0 ∧ j = 31) ∨ (q = o0 ∧ j = 32) ∨ (q = o0 ∧ j = 33) ∨ (q = o0 ∧ j = 34) ∨ (q = o0 ∧ j = 35) ∨ (q = o0 + 8 ∧ j = 1) ∨ (q = o0 + 8 ∧ j = 2) ∨ (q = o0 + 8 ∧ j = 3) ∨ (q = o0 + 8 ∧ j = 4) ∨ (q = o0 + 8 ∧ j = 5) ∨ (q = o0 + 8 ∧ j = 6) ∨ (q = o0 + 8 ∧ j = 7) ∨ (q = o0 + 8 ∧ j = 8) ∨ (q = o0 + 8 ∧ j = 9) ∨ (q = o0 + 8 ∧ j = 10) ∨ (q = o0 + 8 ∧ j = 11)) → I q j = Ib q j) ∧ (I (o0 + 1) 70 ≤ Ib (o0 + 1) 70 + 60 ∧ I o0 35 = 0 ∧ (∀ k : Nat, k < 240 → I (o0 + 13) k = 0))) → sat (zr v I) Q_) : ∀ (m : Nat) (w2 : Int) (w3 : Int) (I0 : IMem), inr w2 → inr w3 → GX o0 I0 → ((∀ q j, ¬ (q = o0 + 1 ∨ q = o0 + 7 ∨ q = o0 + 9 ∨ q = o0 + 10 ∨ q = o0 + 11 ∨ q = o0 + 12 ∨ q = o0 + 13 ∨ q = o0 + 14 ∨ (q = o0 ∧ j = 24) ∨ (q = o0 ∧ j = 30) ∨ (q = o0 ∧ j = 31) ∨ (q = o0 ∧ j = 32) ∨ (q = o0 ∧ j = 33) ∨ (q = o0 ∧ j = 34) ∨ (q = o0 ∧ j = 35) ∨ (q = o0 + 8 ∧ j = 1) ∨ (q = o0 + 8 ∧ j = 2) ∨ (q = o0 + 8 ∧ j = 3) ∨ (q = o0 + 8 ∧ j = 4) ∨ (q = o0 + 8 ∧ j = 5) ∨ (q = o0 + 8 ∧ j = 6) ∨ (q = o0 + 8 ∧ j = 7) ∨ (q = o0 + 8 ∧ j = 8) ∨ (q = o0 + 8 ∧ j = 9) ∨ (q = o0 + 8 ∧ j = 10) ∨ (q = o0 + 8 ∧ j = 11)) → I0 q j = Ib q j) ∧ (0 ≤ w3 ∧ w3 ≤ 60 ∧ I0 (o0 + 1) 70 = Ib (o0 + 1) 70 + w3 ∧ (w3 = 0 ∨ (I0 o0 35 = 0 ∧ (∀ k : Nat, k < 240 → I0 (o0 + 13) k = 0))))) → (p1 - w3).toNat < m → sat (f_X_run_16 fu o0 p1 m w2 w3 I0) Q_ := by
  intro m
  induction m with
  | zero => intro w2 w3 I0 _ _ _ _ h0; exact absurd h0 (Nat.not_lt_zero _)
  | succ m hR_ =>
    intro w2 w3 I0 ⟨aw2, bw2⟩ ⟨aw3, bw3⟩ hRI0 hinv hmeas
    have fI0 := hinv.1; replace hinv := hinv.2
    show sat (fb_X_run_16 fu o0 p1 (f_X_run_16 fu o0 p1 m) w2 w3 I0) Q_
    unfold fb_X_run_16
    obtain ⟨ap1, bp1⟩ := qp1
    refine sat_ite (fun q_1 => ?_) (fun q_1 => ?_)
    · refine sat_zb (ok_X_turn fu o0 I0 hfu hRI0 (by first | omega | (simp (disch := omega) only [wr32_i2, wdiv_i2, wrem_i2]; omega) | grind | grind [wr32])) (fun y4 I5 c_2 ⟨⟨ay4, by4⟩, hRI5, pI5⟩ => ?_)
      have fI5 : ∀ q j, ¬ (q = o0 + 1 ∨ q = o0 + 7 ∨ q = o0 + 9 ∨ q = o0 + 10 ∨ q = o0 + 11 ∨ q = o0 + 12 ∨ q = o0 + 13 ∨ q = o0 + 14 ∨ (q = o0 ∧ j = 24) ∨ (q = o0 ∧ j = 30) ∨ (q = o0 ∧ j = 31) ∨ (q = o0 ∧ j = 32) ∨ (q = o0 ∧ j = 33) ∨ (q = o0 ∧ j = 34) ∨ (q = o0 ∧ j = 35) ∨ (q = o0 + 8 ∧ j = 1) ∨ (q = o0 + 8 ∧ j = 2) ∨ (q = o0 + 8 ∧ j = 3) ∨ (q = o0 + 8 ∧ j = 4) ∨ (q = o0 + 8 ∧ j = 5) ∨ (q = o0 + 8 ∧ j = 6) ∨ (q = o0 + 8 ∧ j = 7) ∨ (q = o0 + 8 ∧ j = 8) ∨ (q = o0 + 8 ∧ j = 9) ∨ (q = o0 + 8 ∧ j = 10) ∨ (q = o0 + 8 ∧ j = 11)) → I5 q j = I0 q j := fc_X_turn (fun q j => q = o0 + 1 ∨ q = o0 + 7 ∨ q = o0 + 9 ∨ q = o0 + 10 ∨ q = o0 + 11 ∨ q = o0 + 12 ∨ q = o0 + 13 ∨ q = o0 + 14 ∨ (q = o0 ∧ j = 24) ∨ (q = o0 ∧ j = 30) ∨ (q = o0 ∧ j = 31) ∨ (q = o0 ∧ j = 32) ∨ (q = o0 ∧ j = 33) ∨ (q = o0 ∧ j = 34) ∨ (q = o0 ∧ j = 35) ∨ (q = o0 + 8 ∧ j = 1) ∨ (q = o0 + 8 ∧ j = 2) ∨ (q = o0 + 8 ∧ j = 3) ∨ (q = o0 + 8 ∧ j = 4) ∨ (q = o0 + 8 ∧ j = 5) ∨ (q = o0 + 8 ∧ j = 6) ∨ (q = o0 + 8 ∧ j = 7) ∨ (q = o0 + 8 ∧ j = 8) ∨ (q = o0 + 8 ∧ j = 9) ∨ (q = o0 + 8 ∧ j = 10) ∨ (q = o0 + 8 ∧ j = 11)) fu o0 I0 (fun _ => by simp) (fun _ => by simp) (fun _ => by simp) (fun _ => by simp) (fun _ => by simp) (fun _ => by simp) (fun _ => by simp) (fun _ => by simp) (by simp) (by simp) (by simp) (by simp) (by simp) (by simp) (by simp) (by simp) (by simp) (by simp) (by simp) (by simp) (by simp) (by simp) (by simp) (by simp) (by simp) (by simp) c_2
      refine sat_zl (wr32_in _) (fun x7 hx7 ax7 bx7 => ?_)
      try simp (disch := omega) only [wr32_i2, wdiv_i2, wrem_i2] at hx7
      refine sat_zl (wr32_in _) (fun x8 hx8 ax8 bx8 => ?_)
      try simp (disch := omega) only [wr32_i2, wdiv_i2, wrem_i2] at hx8
      exact hR_ x7 x8 I5 ⟨ax7, bx7⟩ ⟨ax8, bx8⟩ hRI5 ⟨(by intro q j hq; grind), ⟨by omega, by omega, by omega, Or.inr ⟨pI5.1, pI5.2.2⟩⟩⟩ (by first | omega | (simp (disch := omega) only [wr32_i2, wdiv_i2, wrem_i2]; omega) | grind | grind [wr32])
    · exact hret _ _ ⟨aw2, bw2⟩ hRI0 ⟨(by intro q j hq; exact fI0 q j hq), by omega, hinv.2.2.2.resolve_left (by omega)⟩
theorem ok_X_run (fu : Nat) (o0 : Nat) (a1 : Int) (I0 : IMem) (hfu : 5000000000 < fu) (hRI0 : GX o0 I0) (qa1 : inr a1) (hc : I0 (o0 + 1) 70 < 1900000000) : sat (f_X_run fu o0 a1 I0) (fun v I => inr v ∧ GX o0 I ∧ (I (o0 + 1) 70 ≤ I0 (o0 + 1) 70 + 60 ∧ ((I o0 35 = 0 ∧ (∀ k : Nat, k < 240 → I (o0 + 13) k = 0)) ∨ I = I0))) := by
  unfold f_X_run
  obtain ⟨aa1, ba1⟩ := qa1
  refine sat_zb (ok_X_isIn fu a1 1 60 I0 hfu hRI0.1 ⟨aa1, ba1⟩ (lit_in rfl) (lit_in rfl)) (fun y1 I2 c_1 ⟨⟨ay1, by1⟩, _, pI2⟩ => ?_)
  have eI2 := pI2.1.symm; replace pI2 := pI2.2; subst eI2
  refine sat_ite (fun q_2 => ?_) (fun q_2 => ?_)
  · exact sat_zr ⟨(lit_in rfl), hRI0, ⟨by omega, Or.inr rfl⟩⟩
  · refine ok_X_run_16 (Ib := I0) fu o0 a1 hfu ⟨aa1, ba1⟩ (by first | omega | (simp (disch := omega) only [wr32_i2, wdiv_i2, wrem_i2]; omega) | grind | grind [wr32]) (by first | omega | (simp (disch := omega) only [wr32_i2, wdiv_i2, wrem_i2]; omega) | grind | grind [wr32]) (fun v I h1 h2 h3 => sat_zr ⟨h1, h2, (by first | exact trivial | exact h3 | grind)⟩) fu 0 0 I0 (lit_in rfl) (lit_in rfl) hRI0 ⟨(fun _ _ _ => rfl), ⟨by omega, by omega, by omega, Or.inl rfl⟩⟩ (by first | omega | (simp (disch := omega) only [wr32_i2, wdiv_i2, wrem_i2]; omega) | grind | grind [wr32])
theorem ok_X_last (fu : Nat) (o0 : Nat) (a1 : Int) (I0 : IMem) (hfu : 5000000000 < fu) (hRI0 : GX o0 I0) (qa1 : inr a1) : sat (f_X_last fu o0 a1 I0) (fun v I => inr v ∧ GX o0 I ∧ (I = I0 ∧ (True))) := by
  unfold f_X_last
  obtain ⟨aa1, ba1⟩ := qa1
  have hga := gx_a hRI0
  have ⟨r_1a, r_1b⟩ : -2147483648 ≤ I0 (o0 + 1) 110 ∧ I0 (o0 + 1) 110 < 2147483648 := hRI0.1 (o0 + 1) 110
  have r_1g := gx_a hRI0
  refine sat_zl (hRI0.1 (o0 + 1) 110) (fun x1 hx1 ax1 bx1 => ?_)
  refine sat_ite (fun q_2 => ?_) (fun q_2 => ?_)
  · exact sat_zr ⟨(lit_in rfl), hRI0, ⟨rfl, trivial⟩⟩
  · refine sat_zb (ok_X_isIn fu a1 10 (wr32 (9 + x1)) I0 hfu hRI0.1 ⟨aa1, ba1⟩ (lit_in rfl) (wr32_in _)) (fun y2 I3 c_3 ⟨⟨ay2, by2⟩, _, pI3⟩ => ?_)
    have eI3 := pI3.1.symm; replace pI3 := pI3.2; subst eI3
    try simp (disch := omega) only [wr32_i2, wdiv_i2, wrem_i2] at pI3
    refine sat_ite (fun q_4 => ?_) (fun q_4 => ?_)
    · refine sat_zb (ok_X_isIn fu a1 20 (wr32 (19 + x1)) I0 hfu hRI0.1 ⟨aa1, ba1⟩ (lit_in rfl) (wr32_in _)) (fun y5 I6 c_5 ⟨⟨ay5, by5⟩, _, pI6⟩ => ?_)
      have eI6 := pI6.1.symm; replace pI6 := pI6.2; subst eI6
      try simp (disch := omega) only [wr32_i2, wdiv_i2, wrem_i2] at pI6
      refine sat_ite (fun q_6 => ?_) (fun q_6 => ?_)
      · refine sat_ite (fun q_7 => ?_) (fun q_7 => ?_)
        · exact sat_zr ⟨⟨ax1, bx1⟩, hRI0, ⟨rfl, trivial⟩⟩
        · refine sat_ite (fun q_8 => ?_) (fun q_8 => ?_)
          · have ⟨r_9a, r_9b⟩ : -2147483648 ≤ I0 (o0 + 1) 111 ∧ I0 (o0 + 1) 111 < 2147483648 := hRI0.1 (o0 + 1) 111
            exact sat_zr ⟨(hRI0.1 (o0 + 1) 111), hRI0, ⟨rfl, trivial⟩⟩
          · exact sat_zr ⟨(lit_in rfl), hRI0, ⟨rfl, trivial⟩⟩
      · refine sat_zl (wr32_in _) (fun x8 hx8 ax8 bx8 => ?_)
        try simp (disch := omega) only [wr32_i2, wdiv_i2, wrem_i2] at hx8
        refine sat_zg (by first | omega | grind | grind [wr32]) (fun g_10 => ?_)
        have ⟨r_11a, r_11b⟩ : -2147483648 ≤ I0 (o0 + 1) x8.toNat ∧ I0 (o0 + 1) x8.toNat < 2147483648 := hRI0.1 (o0 + 1) x8.toNat
        try have r_11many := gx_many hRI0 x8.toNat (by omega) (by omega)
        try have r_11seen := gx_seen hRI0 x8.toNat (by omega) (by omega)
        try have r_11part := gx_part hRI0 x8.toNat (by omega) (by omega)
        try have r_11rows := gx_rows hRI0 x8.toNat (by omega) (by omega) (by omega)
        exact sat_zr ⟨(hRI0.1 (o0 + 1) x8.toNat), hRI0, ⟨rfl, trivial⟩⟩
    · refine sat_zl (wr32_in _) (fun x9 hx9 ax9 bx9 => ?_)
      try simp (disch := omega) only [wr32_i2, wdiv_i2, wrem_i2] at hx9
      refine sat_zg (by first | omega | grind | grind [wr32]) (fun g_12 => ?_)
      have ⟨r_13a, r_13b⟩ : -2147483648 ≤ I0 (o0 + 1) x9.toNat ∧ I0 (o0 + 1) x9.toNat < 2147483648 := hRI0.1 (o0 + 1) x9.toNat
      try have r_13many := gx_many hRI0 x9.toNat (by omega) (by omega)
      try have r_13seen := gx_seen hRI0 x9.toNat (by omega) (by omega)
      try have r_13part := gx_part hRI0 x9.toNat (by omega) (by omega)
      try have r_13rows := gx_rows hRI0 x9.toNat (by omega) (by omega) (by omega)
      exact sat_zr ⟨(hRI0.1 (o0 + 1) x9.toNat), hRI0, ⟨rfl, trivial⟩⟩
theorem ok_X_count (fu : Nat) (o0 : Nat) (a1 : Int) (I0 : IMem) (hfu : 5000000000 < fu) (hRI0 : GX o0 I0) (qa1 : inr a1) : sat (f_X_count fu o0 a1 I0) (fun v I => inr v ∧ GX o0 I ∧ (I = I0 ∧ (True))) := by
  unfold f_X_count
  obtain ⟨aa1, ba1⟩ := qa1
  refine sat_zb (ok_X_isIn fu a1 0 6 I0 hfu hRI0.1 ⟨aa1, ba1⟩ (lit_in rfl) (lit_in rfl)) (fun y1 I2 c_1 ⟨⟨ay1, by1⟩, _, pI2⟩ => ?_)
  have eI2 := pI2.1.symm; replace pI2 := pI2.2; subst eI2
  refine sat_ite (fun q_2 => ?_) (fun q_2 => ?_)
  · refine sat_zb (ok_X_isIn fu a1 41 48 I0 hfu hRI0.1 ⟨aa1, ba1⟩ (lit_in rfl) (lit_in rfl)) (fun y4 I5 c_3 ⟨⟨ay4, by4⟩, _, pI5⟩ => ?_)
    have eI5 := pI5.1.symm; replace pI5 := pI5.2; subst eI5
    refine sat_ite (fun q_4 => ?_) (fun q_4 => ?_)
    · refine sat_zb (ok_X_isIn fu (wrem a1 10) 1 8 I0 hfu hRI0.1 (wrem_in _ _) (lit_in rfl) (lit_in rfl)) (fun y7 I8 c_5 ⟨⟨ay7, by7⟩, _, pI8⟩ => ?_)
      have eI8 := pI8.1.symm; replace pI8 := pI8.2; subst eI8
      try simp (disch := omega) only [wr32_i2, wdiv_i2, wrem_i2] at pI8
      refine sat_zj (fun k10 ek10 => ?_)
      have hk10 : ∀ (x12 : Int) (I11 : IMem), inr x12 → GX o0 I11 → (I11 = I0 ∧ (x12 = 0 ∨ (11 ≤ a1 ∧ a1 ≤ 38))) → sat (k10 x12 I11) (fun v I => inr v ∧ GX o0 I ∧ (I = I0 ∧ (True))) := by
        intro x12 I11 ⟨ax12, bx12⟩ hRI11 jk10
        subst ek10
        have ejk10 := jk10.1.symm; replace jk10 := jk10.2; subst ejk10
        refine sat_ite (fun q_6 => ?_) (fun q_6 => ?_)
        · exact sat_zr ⟨(lit_in rfl), hRI0, ⟨rfl, trivial⟩⟩
        · refine sat_zl (wr32_in _) (fun x13 hx13 ax13 bx13 => ?_)
          try simp (disch := omega) only [wr32_i2, wdiv_i2, wrem_i2] at hx13
          refine sat_zg (by first | omega | grind | grind [wr32]) (fun g_7 => ?_)
          have ⟨r_8a, r_8b⟩ : -2147483648 ≤ I0 (o0 + 1) x13.toNat ∧ I0 (o0 + 1) x13.toNat < 2147483648 := hRI0.1 (o0 + 1) x13.toNat
          try have r_8many := gx_many hRI0 x13.toNat (by omega) (by omega)
          try have r_8seen := gx_seen hRI0 x13.toNat (by omega) (by omega)
          try have r_8part := gx_part hRI0 x13.toNat (by omega) (by omega)
          try have r_8rows := gx_rows hRI0 x13.toNat (by omega) (by omega) (by omega)
          exact sat_zr ⟨(hRI0.1 (o0 + 1) x13.toNat), hRI0, ⟨rfl, trivial⟩⟩
      clear ek10
      refine sat_ite (fun q_9 => ?_) (fun q_9 => ?_)
      · exact hk10 0 I0 (lit_in rfl) hRI0 ⟨rfl, (by first | omega | (simp (disch := omega) only [wr32_i2, wdiv_i2, wrem_i2]; omega) | grind | grind [wr32])⟩
      · refine sat_zb (ok_X_isIn fu a1 11 38 I0 hfu hRI0.1 ⟨aa1, ba1⟩ (lit_in rfl) (lit_in rfl)) (fun y14 I15 c_10 ⟨⟨ay14, by14⟩, _, pI15⟩ => ?_)
        have eI15 := pI15.1.symm; replace pI15 := pI15.2; subst eI15
        refine sat_ite (fun q_11 => ?_) (fun q_11 => ?_)
        · exact hk10 0 I0 (lit_in rfl) hRI0 ⟨rfl, (by first | omega | (simp (disch := omega) only [wr32_i2, wdiv_i2, wrem_i2]; omega) | grind | grind [wr32])⟩
        · exact hk10 1 I0 (lit_in rfl) hRI0 ⟨rfl, (by first | omega | (simp (disch := omega) only [wr32_i2, wdiv_i2, wrem_i2]; omega) | grind | grind [wr32])⟩
    · refine sat_zl (wr32_in _) (fun x17 hx17 ax17 bx17 => ?_)
      try simp (disch := omega) only [wr32_i2, wdiv_i2, wrem_i2] at hx17
      refine sat_zg (by first | omega | grind | grind [wr32]) (fun g_12 => ?_)
      have ⟨r_13a, r_13b⟩ : -2147483648 ≤ I0 (o0 + 1) x17.toNat ∧ I0 (o0 + 1) x17.toNat < 2147483648 := hRI0.1 (o0 + 1) x17.toNat
      try have r_13many := gx_many hRI0 x17.toNat (by omega) (by omega)
      try have r_13seen := gx_seen hRI0 x17.toNat (by omega) (by omega)
      try have r_13part := gx_part hRI0 x17.toNat (by omega) (by omega)
      try have r_13rows := gx_rows hRI0 x17.toNat (by omega) (by omega) (by omega)
      refine sat_ite (fun q_14 => ?_) (fun q_14 => ?_)
      · exact sat_zr ⟨(lit_in rfl), hRI0, ⟨rfl, trivial⟩⟩
      · refine sat_zl (wr32_in _) (fun x18 hx18 ax18 bx18 => ?_)
        try simp (disch := omega) only [wr32_i2, wdiv_i2, wrem_i2] at hx18
        refine sat_zg (by first | omega | grind | grind [wr32]) (fun g_15 => ?_)
        refine sat_zl (wr32_in _) (fun x19 hx19 ax19 bx19 => ?_)
        try simp (disch := omega) only [wr32_i2, wdiv_i2, wrem_i2] at hx19
        refine sat_zg (by first | omega | grind | grind [wr32]) (fun g_16 => ?_)
        have ⟨r_17a, r_17b⟩ : -2147483648 ≤ I0 (o0 + 1) x19.toNat ∧ I0 (o0 + 1) x19.toNat < 2147483648 := hRI0.1 (o0 + 1) x19.toNat
        try have r_17many := gx_many hRI0 x19.toNat (by omega) (by omega)
        try have r_17seen := gx_seen hRI0 x19.toNat (by omega) (by omega)
        try have r_17part := gx_part hRI0 x19.toNat (by omega) (by omega)
        try have r_17rows := gx_rows hRI0 x19.toNat (by omega) (by omega) (by omega)
        refine sat_zg (by first | omega | grind | grind [wr32]) (fun g_18 => ?_)
        have ⟨r_19a, r_19b⟩ : -2147483648 ≤ I0 (o0 + 1) x18.toNat ∧ I0 (o0 + 1) x18.toNat < 2147483648 := hRI0.1 (o0 + 1) x18.toNat
        try have r_19many := gx_many hRI0 x18.toNat (by omega) (by omega)
        try have r_19seen := gx_seen hRI0 x18.toNat (by omega) (by omega)
        try have r_19part := gx_part hRI0 x18.toNat (by omega) (by omega)
        try have r_19rows := gx_rows hRI0 x18.toNat (by omega) (by omega) (by omega)
        exact sat_zr ⟨(wdiv_in _ _), hRI0, ⟨rfl, trivial⟩⟩
  · refine sat_zl (wr32_in _) (fun x20 hx20 ax20 bx20 => ?_)
    try simp (disch := omega) only [wr32_i2, wdiv_i2, wrem_i2] at hx20
    refine sat_zg (by first | omega | grind | grind [wr32]) (fun g_20 => ?_)
    have ⟨r_21a, r_21b⟩ : -2147483648 ≤ I0 (o0 + 1) x20.toNat ∧ I0 (o0 + 1) x20.toNat < 2147483648 := hRI0.1 (o0 + 1) x20.toNat
    try have r_21many := gx_many hRI0 x20.toNat (by omega) (by omega)
    try have r_21seen := gx_seen hRI0 x20.toNat (by omega) (by omega)
    try have r_21part := gx_part hRI0 x20.toNat (by omega) (by omega)
    try have r_21rows := gx_rows hRI0 x20.toNat (by omega) (by omega) (by omega)
    exact sat_zr ⟨(hRI0.1 (o0 + 1) x20.toNat), hRI0, ⟨rfl, trivial⟩⟩
theorem ok_X_laysRow_15 {Ib : IMem} (fu : Nat) (k_87 : IMem → Res) (o0 : Nat) (p1 : Int) (hfu : 5000000000 < fu) (qp1 : inr p1) (hp : 0 ≤ p1 ∧ p1 < 6) {Q_ : Int → IMem → Prop} (hk_87 : ∀ (I9 : IMem), GX o0 I9 → ((∀ q j, ¬ (q = o0 + 16 ∨ (q = o0 ∧ j = 40)) → I9 q j = Ib q j) ∧ (RW o0 I9 ∧ I9 o0 40 ≤ 24 * (p1 + 1))) → sat (k_87 I9) Q_) (hret : ∀ v I, inr v → GX o0 I → ((∀ q j, ¬ (q = o0 + 16 ∨ (q = o0 ∧ j = 40)) → I q j = Ib q j) ∧ (False)) → sat (zr v I) Q_) : ∀ (m : Nat) (w2 : Int) (I0 : IMem), inr w2 → GX o0 I0 → ((∀ q j, ¬ (q = o0 + 16 ∨ (q = o0 ∧ j = 40)) → I0 q j = Ib q j) ∧ (0 ≤ w2 ∧ w2 ≤ 24 ∧ RW o0 I0 ∧ I0 o0 40 ≤ 24 * p1 + w2)) → (24 - w2).toNat < m → sat (f_X_laysRow_15 fu k_87 o0 p1 m w2 I0) Q_ := by
  intro m
  induction m with
  | zero => intro w2 I0 _ _ _ h0; exact absurd h0 (Nat.not_lt_zero _)
  | succ m hR_ =>
    intro w2 I0 ⟨aw2, bw2⟩ hRI0 hinv hmeas
    have fI0 := hinv.1; replace hinv := hinv.2
    show sat (fb_X_laysRow_15 fu k_87 o0 p1 (f_X_laysRow_15 fu k_87 o0 p1 m) w2 I0) Q_
    unfold fb_X_laysRow_15
    obtain ⟨ap1, bp1⟩ := qp1
    have hrw40 := hinv.2.2.1.1
    refine sat_zl (wr32_in _) (fun x2 hx2 ax2 bx2 => ?_)
    try simp (disch := omega) only [wr32_i2, wdiv_i2, wrem_i2] at hx2
    refine sat_zg (by first | omega | grind | grind [wr32]) (fun g_1 => ?_)
    have ⟨r_2a, r_2b⟩ : -2147483648 ≤ I0 (o0 + 1) x2.toNat ∧ I0 (o0 + 1) x2.toNat < 2147483648 := hRI0.1 (o0 + 1) x2.toNat
    try have r_2many := gx_many hRI0 x2.toNat (by omega) (by omega)
    try have r_2seen := gx_seen hRI0 x2.toNat (by omega) (by omega)
    try have r_2part := gx_part hRI0 x2.toNat (by omega) (by omega)
    try have r_2rows := gx_rows hRI0 x2.toNat (by omega) (by omega) (by omega)
    refine sat_ite (fun q_3 => ?_) (fun q_3 => ?_)
    · refine sat_zl (wr32_in _) (fun x3 hx3 ax3 bx3 => ?_)
      try simp (disch := omega) only [wr32_i2, wdiv_i2, wrem_i2] at hx3
      refine sat_zg (by first | omega | grind | grind [wr32]) (fun g_4 => ?_)
      have ⟨r_5a, r_5b⟩ : -2147483648 ≤ I0 (o0 + 1) x3.toNat ∧ I0 (o0 + 1) x3.toNat < 2147483648 := hRI0.1 (o0 + 1) x3.toNat
      try have r_5many := gx_many hRI0 x3.toNat (by omega) (by omega)
      try have r_5seen := gx_seen hRI0 x3.toNat (by omega) (by omega)
      try have r_5part := gx_part hRI0 x3.toNat (by omega) (by omega)
      try have r_5rows := gx_rows hRI0 x3.toNat (by omega) (by omega) (by omega)
      refine sat_ite (fun q_6 => ?_) (fun q_6 => ?_)
      · refine sat_zb (ok_X_of fu o0 p1 w2 3 I0 hfu hRI0 ⟨ap1, bp1⟩ ⟨aw2, bw2⟩ (lit_in rfl) (by first | omega | (simp (disch := omega) only [wr32_i2, wdiv_i2, wrem_i2]; omega) | grind | grind [wr32])) (fun y4 I5 c_7 ⟨⟨ay4, by4⟩, _, pI5⟩ => ?_)
        have eI5 := pI5.1.symm; replace pI5 := pI5.2; subst eI5
        refine sat_zj (fun k7 ek7 => ?_)
        have hk7 : ∀ (I8 : IMem), GX o0 I8 → ((∀ q j, ¬ (q = o0 + 16 ∨ (q = o0 ∧ j = 40)) → I8 q j = I0 q j) ∧ (RW o0 I8 ∧ I8 o0 40 ≤ 24 * p1 + w2 + 1)) → sat (k7 I8) Q_ := by
          intro I8  hRI8 jk7
          subst ek7
          have fI8 := jk7.1; replace jk7 := jk7.2
          refine sat_zl (wr32_in _) (fun x9 hx9 ax9 bx9 => ?_)
          try simp (disch := omega) only [wr32_i2, wdiv_i2, wrem_i2] at hx9
          exact hR_ x9 I8 ⟨ax9, bx9⟩ hRI8 ⟨(by intro q j hq; grind), ⟨by omega, by omega, jk7.1, by omega⟩⟩ (by first | omega | (simp (disch := omega) only [wr32_i2, wdiv_i2, wrem_i2]; omega) | grind | grind [wr32])
        clear ek7
        refine sat_ite (fun q_8 => ?_) (fun q_8 => ?_)
        · exact hk7 I0 hRI0 ⟨(by intro q j hq; grind), (by first | exact ⟨hpu.1, by rw [hpu.2]; omega⟩ | exact ⟨hinv.2.2.1, by omega⟩)⟩
        · have ⟨r_9a, r_9b⟩ : -2147483648 ≤ I0 o0 40 ∧ I0 o0 40 < 2147483648 := hRI0.1 o0 40
          refine sat_zl (hRI0.1 o0 40) (fun x11 hx11 ax11 bx11 => ?_)
          refine sat_zg (by first | omega | grind | grind [wr32]) (fun g_10 => ?_)
          refine sat_zwXn (c := 16) hRI0 (wr32_in _) (by decide) (Or.inl (by decide)) (fun I10 eI10 hRI10 => ?_)
          have ⟨r_11a, r_11b⟩ : -2147483648 ≤ I10 o0 40 ∧ I10 o0 40 < 2147483648 := hRI10.1 o0 40
          refine sat_zwX0 hRI10 (wr32_in _) (by first | omega | (simp (disch := omega) only [wr32_i2, wdiv_i2, wrem_i2]; omega) | grind | grind [wr32]) (fun I12 eI12 hRI12 => ?_)
          have hpu := rw_push hinv.2.2.1 (by omega) hx11 (by simp (disch := omega) only [wr32_i2]; omega) eI10 eI12
          exact hk7 I12 hRI12 ⟨(by intro q j hq; grind), (by first | exact ⟨hpu.1, by rw [hpu.2]; omega⟩ | exact ⟨hinv.2.2.1, by omega⟩)⟩
      · exact hk_87 I0 hRI0 ⟨(by intro q j hq; grind), ⟨hinv.2.2.1, by omega⟩⟩
    · exact hk_87 I0 hRI0 ⟨(by intro q j hq; grind), ⟨hinv.2.2.1, by omega⟩⟩
theorem ok_X_laysRow_7 {Ib : IMem} (fu : Nat) (o0 : Nat) (hfu : 5000000000 < fu) {Q_ : Int → IMem → Prop} (hret : ∀ v I, inr v → GX o0 I → ((∀ q j, ¬ (q = o0 + 16 ∨ (q = o0 ∧ j = 40)) → I q j = Ib q j) ∧ (RW o0 I)) → sat (zr v I) Q_) : ∀ (m : Nat) (w1 : Int) (I0 : IMem), inr w1 → GX o0 I0 → ((∀ q j, ¬ (q = o0 + 16 ∨ (q = o0 ∧ j = 40)) → I0 q j = Ib q j) ∧ (0 ≤ w1 ∧ w1 ≤ 6 ∧ RW o0 I0 ∧ I0 o0 40 ≤ 24 * w1)) → (6 - w1).toNat < m → sat (f_X_laysRow_7 fu o0 m w1 I0) Q_ := by
  intro m
  induction m with
  | zero => intro w1 I0 _ _ _ h0; exact absurd h0 (Nat.not_lt_zero _)
  | succ m hR_ =>
    intro w1 I0 ⟨aw1, bw1⟩ hRI0 hinv hmeas
    have fI0 := hinv.1; replace hinv := hinv.2
    show sat (fb_X_laysRow_7 fu o0 (f_X_laysRow_7 fu o0 m) w1 I0) Q_
    unfold fb_X_laysRow_7
    refine sat_ite (fun q_1 => ?_) (fun q_1 => ?_)
    · refine ok_X_laysRow_15 (Ib := I0) fu _ o0 w1 hfu ⟨aw1, bw1⟩ (by first | omega | (simp (disch := omega) only [wr32_i2, wdiv_i2, wrem_i2]; omega) | grind | grind [wr32]) ?_ (fun v I h1 h2 h3 => hret v I h1 h2 (by first | exact h3.elim | exact h3.2.elim)) fu 0 I0 (lit_in rfl) hRI0 ⟨(fun _ _ _ => rfl), ⟨by omega, by omega, hinv.2.2.1, by omega⟩⟩ (by first | omega | (simp (disch := omega) only [wr32_i2, wdiv_i2, wrem_i2]; omega) | grind | grind [wr32])
      · intro I13  hRI13 xI13
        have fI13 := xI13.1; replace xI13 := xI13.2
        refine sat_zl (wr32_in _) (fun x14 hx14 ax14 bx14 => ?_)
        try simp (disch := omega) only [wr32_i2, wdiv_i2, wrem_i2] at hx14
        exact hR_ x14 I13 ⟨ax14, bx14⟩ hRI13 ⟨(by intro q j hq; grind), ⟨by omega, by omega, xI13.1, by omega⟩⟩ (by first | omega | (simp (disch := omega) only [wr32_i2, wdiv_i2, wrem_i2]; omega) | grind | grind [wr32])
    · exact hret _ _ (lit_in rfl) hRI0 ⟨(by intro q j hq; exact fI0 q j hq), hinv.2.2.1⟩
