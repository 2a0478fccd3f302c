/-! safety of the reference -/
theorem ok_X_begins_2 {Ib : IMem} (fu : Nat) (k_29 : IMem → Res) (o0 : Nat) (hfu : 5000000000 < fu) {Q_ : Int → IMem → Prop} (hk_29 : ∀ (I9 : IMem), GX o0 I9 → ((∀ q j, ¬ (q = o0 + 9 ∨ q = o0 + 12) → I9 q j = Ib q j) ∧ (∀ k : Nat, k < 240 → I9 (o0 + 9) k = 0 ∧ I9 (o0 + 12) k = 0)) → sat (k_29 I9) Q_) (hret : ∀ v I, inr v → GX o0 I → ((∀ q j, ¬ (q = o0 + 9 ∨ q = o0 + 12) → I q j = Ib q j) ∧ (False)) → sat (zr v I) Q_) : ∀ (m : Nat) (w1 : Int) (I0 : IMem), inr w1 → GX o0 I0 → ((∀ q j, ¬ (q = o0 + 9 ∨ q = o0 + 12) → I0 q j = Ib q j) ∧ (0 ≤ w1 ∧ w1 ≤ 240 ∧ ∀ k : Nat, (k : Int) < w1 → I0 (o0 + 9) k = 0 ∧ I0 (o0 + 12) k = 0)) → (240 - w1).toNat < m → sat (f_X_begins_2 fu k_29 o0 m w1 I0) Q_ := by
  intro m
  induction m with
  | zero => intro w1 I0 _ _ _ h0; exact absurd h0 (Nat.not_lt_zero _)
  | succ m hR_ =>
    intro w1 I0 ⟨aw1, bw1⟩ hRI0 hinv hmeas
    have fI0 := hinv.1; replace hinv := hinv.2
    show sat (fb_X_begins_2 fu k_29 o0 (f_X_begins_2 fu k_29 o0 m) w1 I0) Q_
    unfold fb_X_begins_2
    refine sat_ite (fun q_1 => ?_) (fun q_1 => ?_)
    · refine sat_zg (by first | omega | grind | grind [wr32]) (fun g_2 => ?_)
      refine sat_zwXn (c := 9) hRI0 (lit_in rfl) (by decide) (Or.inl (by decide)) (fun I1 eI1 hRI1 => ?_)
      refine sat_zg (by first | omega | grind | grind [wr32]) (fun g_3 => ?_)
      refine sat_zwXn (c := 12) hRI1 (lit_in rfl) (by decide) (Or.inl (by decide)) (fun I2 eI2 hRI2 => ?_)
      refine sat_zl (wr32_in _) (fun x3 hx3 ax3 bx3 => ?_)
      try simp (disch := omega) only [wr32_i2, wdiv_i2, wrem_i2] at hx3
      exact hR_ x3 I2 ⟨ax3, bx3⟩ hRI2 ⟨(by intro q j hq; grind), (by first | omega | (simp (disch := omega) only [wr32_i2, wdiv_i2, wrem_i2]; omega) | grind | grind [wr32])⟩ (by first | omega | (simp (disch := omega) only [wr32_i2, wdiv_i2, wrem_i2]; omega) | grind | grind [wr32])
    · exact hk_29 I0 hRI0 ⟨(by intro q j hq; grind), (by first | omega | (simp (disch := omega) only [wr32_i2, wdiv_i2, wrem_i2]; omega) | grind | grind [wr32])⟩
theorem ok_X_begins (fu : Nat) (o0 : Nat) (I0 : IMem) (hfu : 5000000000 < fu) (hRI0 : GX o0 I0) : sat (f_X_begins fu o0 I0) (fun v I => inr v ∧ GX o0 I ∧ (I o0 31 = 0 ∧ I o0 32 = 0 ∧ I o0 30 = I0 (o0 + 1) 1 ∧ (∀ k : Nat, k < 240 → I (o0 + 9) k = 0 ∧ I (o0 + 12) k = 0))) := by
  unfold f_X_begins
  refine ok_X_begins_2 (Ib := I0) fu _ o0 hfu ?_ (fun v I h1 h2 h3 => sat_zr ⟨h1, h2, (by first | exact h3.elim | exact h3.2.elim)⟩) fu 0 I0 (lit_in rfl) hRI0 ⟨(fun _ _ _ => rfl), (by first | omega | (simp (disch := omega) only [wr32_i2, wdiv_i2, wrem_i2]; omega) | grind | grind [wr32])⟩ (by first | omega | (simp (disch := omega) only [wr32_i2, wdiv_i2, wrem_i2]; omega) | grind | grind [wr32])
  · intro I4  hRI4 xI4
    have fI4 := xI4.1; replace xI4 := xI4.2
    have ⟨r_1a, r_1b⟩ : -2147483648 ≤ I4 (o0 + 1) 1 ∧ I4 (o0 + 1) 1 < 2147483648 := hRI4.1 (o0 + 1) 1
    have r_1g := gx_a hRI4
    refine sat_zwX0 hRI4 (hRI4.1 (o0 + 1) 1) (by first | omega | (simp (disch := omega) only [wr32_i2, wdiv_i2, wrem_i2]; omega) | grind | grind [wr32]) (fun I5 eI5 hRI5 => ?_)
    refine sat_zwX0 hRI5 (lit_in rfl) (by first | omega | (simp (disch := omega) only [wr32_i2, wdiv_i2, wrem_i2]; omega) | grind | grind [wr32]) (fun I6 eI6 hRI6 => ?_)
    refine sat_zwX0 hRI6 (lit_in rfl) (by first | omega | (simp (disch := omega) only [wr32_i2, wdiv_i2, wrem_i2]; omega) | grind | grind [wr32]) (fun I7 eI7 hRI7 => ?_)
    refine sat_zwX0 hRI7 (lit_in rfl) (by first | omega | (simp (disch := omega) only [wr32_i2, wdiv_i2, wrem_i2]; omega) | grind | grind [wr32]) (fun I8 eI8 hRI8 => ?_)
    refine sat_zwX0 hRI8 (lit_in rfl) (by first | omega | (simp (disch := omega) only [wr32_i2, wdiv_i2, wrem_i2]; omega) | grind | grind [wr32]) (fun I9 eI9 hRI9 => ?_)
    exact sat_zr ⟨(lit_in rfl), hRI9, (by first | omega | (simp (disch := omega) only [wr32_i2, wdiv_i2, wrem_i2]; omega) | grind | grind [wr32])⟩
theorem ok_X_draw (fu : Nat) (o0 : Nat) (a1 : Int) (I0 : IMem) (hfu : 5000000000 < fu) (hRI0 : GX o0 I0) (qa1 : inr a1) (h0 : a1 ≠ 0) : sat (f_X_draw fu o0 a1 I0) (fun v I => inr v ∧ GX o0 I ∧ (True)) := by
  unfold f_X_draw
  obtain ⟨aa1, ba1⟩ := qa1
  have ⟨r_1a, r_1b⟩ : -2147483648 ≤ I0 (o0 + 1) 0 ∧ I0 (o0 + 1) 0 < 2147483648 := hRI0.1 (o0 + 1) 0
  refine sat_zwX1 hRI0 (wr32_in _) (cw_lit rfl) (fun I1 eI1 hRI1 => ?_)
  refine sat_zg (by first | omega | grind | grind [wr32]) (fun g_2 => ?_)
  have ⟨r_3a, r_3b⟩ : -2147483648 ≤ I1 (o0 + 1) 0 ∧ I1 (o0 + 1) 0 < 2147483648 := hRI1.1 (o0 + 1) 0
  exact sat_zr ⟨(wrem_in _ _), hRI1, trivial⟩
theorem ok_X_movesUp_16 {Ib : IMem} (fu : Nat) (k_51 : Int → IMem → Res) (o0 : Nat) (p1 : Int) (p2 : Int) (hfu : 5000000000 < fu) (qp1 : inr p1) (qp2 : inr p2) (hp : 0 ≤ p1 ∧ p1 < 6 ∧ p2 ≤ 40) {Q_ : Int → IMem → Prop} (hk_51 : ∀ (z0 : Int) (I9 : IMem), inr z0 → GX o0 I9 → (I9 = Ib ∧ (True)) → sat (k_51 z0 I9) Q_) (hret : ∀ v I, inr v → GX o0 I → (I = Ib ∧ (False)) → sat (zr v I) Q_) : ∀ (m : Nat) (w3 : Int) (w4 : Int) (I0 : IMem), inr w3 → inr w4 → GX o0 I0 → (I0 = Ib ∧ (0 ≤ w4)) → (p2 - w4).toNat < m → sat (f_X_movesUp_16 fu k_51 o0 p1 p2 m w3 w4 I0) Q_ := by
  intro m
  induction m with
  | zero => intro w3 w4 I0 _ _ _ _ h0; exact absurd h0 (Nat.not_lt_zero _)
  | succ m hR_ =>
    intro w3 w4 I0 ⟨aw3, bw3⟩ ⟨aw4, bw4⟩ hRI0 hinv hmeas
    have einv := hinv.1; replace hinv := hinv.2; subst einv
    show sat (fb_X_movesUp_16 fu k_51 o0 p1 p2 (f_X_movesUp_16 fu k_51 o0 p1 p2 m) w3 w4 I0) Q_
    unfold fb_X_movesUp_16
    obtain ⟨ap1, bp1⟩ := qp1
    obtain ⟨ap2, bp2⟩ := qp2
    refine sat_ite (fun q_1 => ?_) (fun q_1 => ?_)
    · refine sat_zl (wr32_in _) (fun x3 hx3 ax3 bx3 => ?_)
      try simp (disch := omega) only [wr32_i2, wdiv_i2, wrem_i2] at hx3
      refine sat_zg (by first | omega | grind | grind [wr32]) (fun g_2 => ?_)
      refine sat_zj (fun k4 ek4 => ?_)
      have hk4 : ∀ (x6 : Int) (I5 : IMem), inr x6 → GX o0 I5 → (I5 = I0 ∧ (True)) → sat (k4 x6 I5) Q_ := by
        intro x6 I5 ⟨ax6, bx6⟩ hRI5 jk4
        subst ek4
        have ejk4 := jk4.1.symm; replace jk4 := jk4.2; subst ejk4
        refine sat_zl (wr32_in _) (fun x7 hx7 ax7 bx7 => ?_)
        try simp (disch := omega) only [wr32_i2, wdiv_i2, wrem_i2] at hx7
        refine sat_zl (wr32_in _) (fun x8 hx8 ax8 bx8 => ?_)
        try simp (disch := omega) only [wr32_i2, wdiv_i2, wrem_i2] at hx8
        exact hR_ x7 x8 I0 ⟨ax7, bx7⟩ ⟨ax8, bx8⟩ hRI0 ⟨rfl, (by first | omega | (simp (disch := omega) only [wr32_i2, wdiv_i2, wrem_i2]; omega) | grind | grind [wr32])⟩ (by first | omega | (simp (disch := omega) only [wr32_i2, wdiv_i2, wrem_i2]; omega) | grind | grind [wr32])
      clear ek4
      have ⟨r_3a, r_3b⟩ : -2147483648 ≤ I0 (o0 + 9) x3.toNat ∧ I0 (o0 + 9) x3.toNat < 2147483648 := hRI0.1 (o0 + 9) x3.toNat
      refine sat_ite (fun q_4 => ?_) (fun q_4 => ?_)
      · exact hk4 1 I0 (lit_in rfl) hRI0 ⟨rfl, trivial⟩
      · exact hk4 0 I0 (lit_in rfl) hRI0 ⟨rfl, trivial⟩
    · exact hk_51 w3 I0 ⟨aw3, bw3⟩ hRI0 ⟨rfl, trivial⟩
theorem ok_X_movesUp_132 {Ib : IMem} (fu : Nat) (k_164 : IMem → Res) (o0 : Nat) (p1 : Int) (p2 : Int) (p3 : Int) (p4 : Int) (p5 : Int) (p6 : Int) (p7 : Int) (hfu : 5000000000 < fu) (qp1 : inr p1) (qp2 : inr p2) (qp3 : inr p3) (qp4 : inr p4) (qp5 : inr p5) (qp6 : inr p6) (qp7 : inr p7) (hp : 0 ≤ p1 ∧ p1 < 6 ∧ 0 ≤ p4 ∧ p4 ≤ p5 ∧ p5 < 40 ∧ p5 < Ib (o0 + 1) (130 + p1).toNat ∧ p7 = 140 + 6 * (40 * p1 + p4)) {Q_ : Int → IMem → Prop} (hk_164 : ∀ (I9 : IMem), GX o0 I9 → ((∀ q j, ¬ (q = o0 + 1) → I9 q j = Ib q j) ∧ ((∀ j : Nat, ((j : Int) < p7 ∨ p7 + 6 ≤ (j : Int)) → I9 (o0 + 1) j = Ib (o0 + 1) j) ∧ I9 (o0 + 1) (p7 + 1).toNat = Ib (o0 + 1) (140 + 6 * (40 * p1 + p5) + 1).toNat)) → sat (k_164 I9) Q_) (hret : ∀ v I, inr v → GX o0 I → ((∀ q j, ¬ (q = o0 + 1) → I q j = Ib q j) ∧ (False)) → sat (zr v I) Q_) : ∀ (m : Nat) (w8 : Int) (I0 : IMem), inr w8 → GX o0 I0 → ((∀ q j, ¬ (q = o0 + 1) → I0 q j = Ib q j) ∧ (0 ≤ w8 ∧ w8 ≤ 6 ∧ (∀ j : Nat, ((j : Int) < p7 ∨ p7 + 6 ≤ (j : Int)) → I0 (o0 + 1) j = Ib (o0 + 1) j) ∧ (∀ f : Int, 0 ≤ f → f < 6 → I0 (o0 + 1) (p7 + f).toNat = (if f < w8 then Ib (o0 + 1) (140 + 6 * (40 * p1 + p5) + f).toNat else Ib (o0 + 1) (p7 + f).toNat)))) → (6 - w8).toNat < m → sat (f_X_movesUp_132 fu k_164 o0 p1 p2 p3 p4 p5 p6 p7 m w8 I0) Q_ := by
  intro m
  induction m with
  | zero => intro w8 I0 _ _ _ h0; exact absurd h0 (Nat.not_lt_zero _)
  | succ m hR_ =>
    intro w8 I0 ⟨aw8, bw8⟩ hRI0 hinv hmeas
    have fI0 := hinv.1; replace hinv := hinv.2
    show sat (fb_X_movesUp_132 fu k_164 o0 p1 p2 p3 p4 p5 p6 p7 (f_X_movesUp_132 fu k_164 o0 p1 p2 p3 p4 p5 p6 p7 m) w8 I0) Q_
    unfold fb_X_movesUp_132
    obtain ⟨ap1, bp1⟩ := qp1
    obtain ⟨ap2, bp2⟩ := qp2
    obtain ⟨ap3, bp3⟩ := qp3
    obtain ⟨ap4, bp4⟩ := qp4
    obtain ⟨ap5, bp5⟩ := qp5
    obtain ⟨ap6, bp6⟩ := qp6
    obtain ⟨ap7, bp7⟩ := qp7
    have hm0 := hinv.2.2.1 (130 + p1).toNat (by omega)
    refine sat_ite (fun q_1 => ?_) (fun q_1 => ?_)
    · refine sat_zb (ok_X_of fu o0 p1 p5 w8 I0 hfu hRI0 ⟨ap1, bp1⟩ ⟨ap5, bp5⟩ ⟨aw8, bw8⟩ (by first | omega | (simp (disch := omega) only [wr32_i2, wdiv_i2, wrem_i2]; omega) | grind | grind [wr32])) (fun y26 I27 c_2 ⟨⟨ay26, by26⟩, _, pI27⟩ => ?_)
      have eI27 := pI27.1.symm; replace pI27 := pI27.2; subst eI27
      refine sat_zl (wr32_in _) (fun x30 hx30 ax30 bx30 => ?_)
      try simp (disch := omega) only [wr32_i2, wdiv_i2, wrem_i2] at hx30
      refine sat_zg (by first | omega | grind | grind [wr32]) (fun g_3 => ?_)
      refine sat_zwX1 hRI0 ⟨ay26, by26⟩ (by by_cases q8 : w8 = 1; exact cw_sz (by have := pI27.2 q8 (by omega); omega); exact cw_grp (by omega)) (fun I29 eI29 hRI29 => ?_)
      refine sat_zl (wr32_in _) (fun x31 hx31 ax31 bx31 => ?_)
      try simp (disch := omega) only [wr32_i2, wdiv_i2, wrem_i2] at hx31
      exact hR_ x31 I29 ⟨ax31, bx31⟩ hRI29 ⟨(by intro q j hq; grind), (by
        refine ⟨by omega, by omega, fun j hj => ?_, fun f hf0 hf6 => ?_⟩
        · rw [eI29, if_neg (by omega)]; exact hinv.2.2.1 j hj
        · have hB := hinv.2.2.2 f hf0 hf6
          by_cases qf : f = w8
          · subst qf
            rw [eI29, if_pos ⟨rfl, by omega⟩, if_pos (by omega), pI27.1]
            by_cases q45 : p4 = p5
            · rw [if_neg (by omega)] at hB
              rw [show 140 + 6 * (40 * p1 + p5) + f = p7 + f by omega]; exact hB
            · exact hinv.2.2.1 _ (by omega)
          · rw [eI29, if_neg (by omega), hB]
            by_cases ql : f < w8
            · rw [if_pos ql, if_pos (by omega)]
            · rw [if_neg ql, if_neg (by omega)])⟩ (by first | omega | (simp (disch := omega) only [wr32_i2, wdiv_i2, wrem_i2]; omega) | grind | grind [wr32])
    · exact hk_164 I0 hRI0 ⟨(by intro q j hq; grind), (by first | omega | (simp (disch := omega) only [wr32_i2, wdiv_i2, wrem_i2]; omega) | grind | grind [wr32])⟩
theorem ok_X_movesUp_57 {Ib : IMem} (fu : Nat) (k_254 : Int → IMem → Res) (o0 : Nat) (p1 : Int) (p2 : Int) (hfu : 5000000000 < fu) (qp1 : inr p1) (qp2 : inr p2) (hp : 0 ≤ p1 ∧ p1 < 6 ∧ 0 ≤ p2 ∧ p2 ≤ 40 ∧ p2 = Ib (o0 + 1) (130 + p1).toNat) (hst : ST o0 p1 Ib) {Q_ : Int → IMem → Prop} (hk_254 : ∀ (z0 : Int) (I9 : IMem), inr z0 → GX o0 I9 → ((∀ q j, ¬ (q = o0 + 1) → I9 q j = Ib q j) ∧ (0 ≤ z0 ∧ z0 ≤ p2 ∧ ∀ j : Nat, ((j : Int) < 140 + 240 * p1 ∨ 140 + 240 * (p1 + 1) ≤ (j : Int)) → I9 (o0 + 1) j = Ib (o0 + 1) j)) → sat (k_254 z0 I9) Q_) (hret : ∀ v I, inr v → GX o0 I → ((∀ q j, ¬ (q = o0 + 1) → I q j = Ib q j) ∧ (False)) → sat (zr v I) Q_) : ∀ (m : Nat) (w3 : Int) (w4 : Int) (w5 : Int) (I0 : IMem), inr w3 → inr w4 → inr w5 → GX o0 I0 → ((∀ q j, ¬ (q = o0 + 1) → I0 q j = Ib q j) ∧ (0 ≤ w4 ∧ w4 ≤ w5 ∧ w5 ≤ p2 ∧ ∀ j : Nat, ((j : Int) < 140 + 240 * p1 ∨ 140 + 6 * (40 * p1 + w5) ≤ (j : Int)) → I0 (o0 + 1) j = Ib (o0 + 1) j)) → (p2 - w5).toNat < m → sat (f_X_movesUp_57 fu k_254 o0 p1 p2 m w3 w4 w5 I0) Q_ := by
  intro m
  induction m with
  | zero => intro w3 w4 w5 I0 _ _ _ _ _ h0; exact absurd h0 (Nat.not_lt_zero _)
  | succ m hR_ =>
    intro w3 w4 w5 I0 ⟨aw3, bw3⟩ ⟨aw4, bw4⟩ ⟨aw5, bw5⟩ hRI0 hinv hmeas
    have fI0 := hinv.1; replace hinv := hinv.2
    show sat (fb_X_movesUp_57 fu k_254 o0 p1 p2 (f_X_movesUp_57 fu k_254 o0 p1 p2 m) w3 w4 w5 I0) Q_
    unfold fb_X_movesUp_57
    obtain ⟨ap1, bp1⟩ := qp1
    obtain ⟨ap2, bp2⟩ := qp2
    refine sat_ite (fun q_1 => ?_) (fun q_1 => ?_)
    · refine sat_zl (wr32_in _) (fun x11 hx11 ax11 bx11 => ?_)
      try simp (disch := omega) only [wr32_i2, wdiv_i2, wrem_i2] at hx11
      have hs1 := hst w5 (by omega) (by omega)
      rw [show 40 * p1 + w5 = x11 by omega] at hs1
      have hs9 := fI0 (o0 + 9) x11.toNat (by omega)
      have hrow := hinv.2.2.2 (141 + 6 * x11).toNat (by omega)
      have hmn := hinv.2.2.2 (130 + p1).toNat (by omega)
      clear hst
      refine sat_zg (by first | omega | grind | grind [wr32]) (fun g_2 => ?_)
      refine sat_zj (fun k12 ek12 => ?_)
      have hk12 : ∀ (x14 : Int) (I13 : IMem), inr x14 → GX o0 I13 → (I13 = I0 ∧ (True)) → sat (k12 x14 I13) Q_ := by
        intro x14 I13 ⟨ax14, bx14⟩ hRI13 jk12
        subst ek12
        have ejk12 := jk12.1.symm; replace jk12 := jk12.2; subst ejk12
        refine sat_zl (wr32_in _) (fun x15 hx15 ax15 bx15 => ?_)
        try simp (disch := omega) only [wr32_i2, wdiv_i2, wrem_i2] at hx15
        refine sat_zg (by first | omega | grind | grind [wr32]) (fun g_3 => ?_)
        refine sat_zj (fun k16 ek16 => ?_)
        have hk16 : ∀ (x18 : Int) (I17 : IMem), inr x18 → GX o0 I17 → ((∀ q j, ¬ (q = o0 + 1) → I17 q j = I0 q j) ∧ (0 ≤ x18 ∧ x18 ≤ w5 + 1 ∧ ∀ j : Nat, ((j : Int) < 140 + 240 * p1 ∨ 140 + 6 * (40 * p1 + w5 + 1) ≤ (j : Int)) → I17 (o0 + 1) j = Ib (o0 + 1) j)) → sat (k16 x18 I17) Q_ := by
          intro x18 I17 ⟨ax18, bx18⟩ hRI17 jk16
          subst ek16
          have fI17 := jk16.1; replace jk16 := jk16.2
          refine sat_zl (wr32_in _) (fun x19 hx19 ax19 bx19 => ?_)
          try simp (disch := omega) only [wr32_i2, wdiv_i2, wrem_i2] at hx19
          exact hR_ x15 x18 x19 I17 ⟨ax15, bx15⟩ ⟨ax18, bx18⟩ ⟨ax19, bx19⟩ hRI17 ⟨(by intro q j hq; grind), ⟨by omega, by omega, by omega, fun j hj => jk16.2.2 j (by omega)⟩⟩ (by first | omega | (simp (disch := omega) only [wr32_i2, wdiv_i2, wrem_i2]; omega) | grind | grind [wr32])
        clear ek16
        have ⟨r_4a, r_4b⟩ : -2147483648 ≤ I0 (o0 + 12) x11.toNat ∧ I0 (o0 + 12) x11.toNat < 2147483648 := hRI0.1 (o0 + 12) x11.toNat
        refine sat_ite (fun q_5 => ?_) (fun q_5 => ?_)
        · refine sat_zg (by first | omega | grind | grind [wr32]) (fun g_6 => ?_)
          refine sat_zb (ok_X_of fu o0 p1 w5 1 I0 hfu hRI0 ⟨ap1, bp1⟩ ⟨aw5, bw5⟩ (lit_in rfl) (by first | omega | (simp (disch := omega) only [wr32_i2, wdiv_i2, wrem_i2]; omega) | grind | grind [wr32])) (fun y20 I21 c_7 ⟨⟨ay20, by20⟩, _, pI21⟩ => ?_)
          have eI21 := pI21.1.symm; replace pI21 := pI21.2; subst eI21
          have ⟨r_8a, r_8b⟩ : -2147483648 ≤ I0 (o0 + 9) x11.toNat ∧ I0 (o0 + 9) x11.toNat < 2147483648 := hRI0.1 (o0 + 9) x11.toNat
          refine sat_ite (fun q_9 => ?_) (fun q_9 => ?_)
          · exact hk16 w4 I0 ⟨aw4, bw4⟩ hRI0 ⟨(by intro q j hq; grind), (by first | exact ⟨by omega, by omega, fun j hj => hinv.2.2.2 j (by omega)⟩ | exact ⟨by omega, by omega, fun j hj => by rw [eI41, if_neg (by omega), eI36, if_neg (by omega), jk33 j (by omega), xI32.1 j (by omega)]; exact hinv.2.2.2 j (by omega)⟩)⟩
          · refine sat_zb (ok_X_cell fu p1 w4 I0 hfu hRI0.1 ⟨ap1, bp1⟩ ⟨aw4, bw4⟩ (by first | omega | (simp (disch := omega) only [wr32_i2, wdiv_i2, wrem_i2]; omega) | grind | grind [wr32])) (fun y23 I24 c_10 ⟨⟨ay23, by23⟩, _, pI24⟩ => ?_)
            have eI24 := pI24.1.symm; replace pI24 := pI24.2; subst eI24
            refine ok_X_movesUp_132 (Ib := I0) fu _ o0 p1 p2 x15 w4 w5 x11 y23 hfu ⟨ap1, bp1⟩ ⟨ap2, bp2⟩ ⟨ax15, bx15⟩ ⟨aw4, bw4⟩ ⟨aw5, bw5⟩ ⟨ax11, bx11⟩ ⟨ay23, by23⟩ (by first | omega | (simp (disch := omega) only [wr32_i2, wdiv_i2, wrem_i2]; omega) | grind | grind [wr32]) ?_ (fun v I h1 h2 h3 => hret v I h1 h2 (by first | exact h3.elim | exact h3.2.elim)) fu 0 I0 (lit_in rfl) hRI0 ⟨(fun _ _ _ => rfl), ⟨by omega, by omega, fun j _ => rfl, fun f h0 h6 => (if_neg (by omega)).symm⟩⟩ (by first | omega | (simp (disch := omega) only [wr32_i2, wdiv_i2, wrem_i2]; omega) | grind | grind [wr32])
            · intro I32  hRI32 xI32
              have fI32 := xI32.1; replace xI32 := xI32.2
              refine sat_zg (by first | omega | grind | grind [wr32]) (fun g_11 => ?_)
              refine sat_zj (fun k33 ek33 => ?_)
              have hk33 : ∀ (I34 : IMem), GX o0 I34 → ((∀ q j, ¬ (q = o0 + 1) → I34 q j = I32 q j) ∧ (∀ j : Nat, ((j : Int) < y23 ∨ y23 + 6 ≤ (j : Int)) → I34 (o0 + 1) j = I32 (o0 + 1) j)) → sat (k33 I34) Q_ := by
                intro I34  hRI34 jk33
                subst ek33
                have fI34 := jk33.1; replace jk33 := jk33.2
                refine sat_zl (wr32_in _) (fun x35 hx35 ax35 bx35 => ?_)
                try simp (disch := omega) only [wr32_i2, wdiv_i2, wrem_i2] at hx35
                refine sat_zg (by first | omega | grind | grind [wr32]) (fun g_12 => ?_)
                refine sat_zg (by first | omega | grind | grind [wr32]) (fun g_13 => ?_)
                have ⟨r_14a, r_14b⟩ : -2147483648 ≤ I34 (o0 + 1) x35.toNat ∧ I34 (o0 + 1) x35.toNat < 2147483648 := hRI34.1 (o0 + 1) x35.toNat
                try have r_14many := gx_many hRI34 x35.toNat (by omega) (by omega)
                try have r_14seen := gx_seen hRI34 x35.toNat (by omega) (by omega)
                try have r_14part := gx_part hRI34 x35.toNat (by omega) (by omega)
                try have r_14rows := gx_rows hRI34 x35.toNat (by omega) (by omega) (by omega)
                refine sat_zwX1 hRI34 (wr32_in _) (cw_grp (by first | omega | (simp (disch := omega) only [wr32_i2, wdiv_i2, wrem_i2]; omega) | grind)) (fun I36 eI36 hRI36 => ?_)
                refine sat_zl (wr32_in _) (fun x37 hx37 ax37 bx37 => ?_)
                try simp (disch := omega) only [wr32_i2, wdiv_i2, wrem_i2] at hx37
                refine sat_zg (by first | omega | grind | grind [wr32]) (fun g_15 => ?_)
                refine sat_zj (fun k38 ek38 => ?_)
                have hk38 : ∀ (x40 : Int) (I39 : IMem), inr x40 → GX o0 I39 → (I39 = I36 ∧ (True)) → sat (k38 x40 I39) Q_ := by
                  intro x40 I39 ⟨ax40, bx40⟩ hRI39 jk38
                  subst ek38
                  have ejk38 := jk38.1.symm; replace jk38 := jk38.2; subst ejk38
                  refine sat_zg (by first | omega | grind | grind [wr32]) (fun g_16 => ?_)
                  have ⟨r_17a, r_17b⟩ : -2147483648 ≤ I36 (o0 + 1) x37.toNat ∧ I36 (o0 + 1) x37.toNat < 2147483648 := hRI36.1 (o0 + 1) x37.toNat
                  try have r_17many := gx_many hRI36 x37.toNat (by omega) (by omega)
                  try have r_17seen := gx_seen hRI36 x37.toNat (by omega) (by omega)
                  try have r_17part := gx_part hRI36 x37.toNat (by omega) (by omega)
                  try have r_17rows := gx_rows hRI36 x37.toNat (by omega) (by omega) (by omega)
                  refine sat_zwX1 hRI36 (wr32_in _) (cw_grp (by first | omega | (simp (disch := omega) only [wr32_i2, wdiv_i2, wrem_i2]; omega) | grind)) (fun I41 eI41 hRI41 => ?_)
                  refine sat_zl (wr32_in _) (fun x42 hx42 ax42 bx42 => ?_)
                  try simp (disch := omega) only [wr32_i2, wdiv_i2, wrem_i2] at hx42
                  exact hk16 x42 I41 ⟨ax42, bx42⟩ hRI41 ⟨(by intro q j hq; grind), (by first | exact ⟨by omega, by omega, fun j hj => hinv.2.2.2 j (by omega)⟩ | exact ⟨by omega, by omega, fun j hj => by rw [eI41, if_neg (by omega), eI36, if_neg (by omega), jk33 j (by omega), xI32.1 j (by omega)]; exact hinv.2.2.2 j (by omega)⟩)⟩
                clear ek38
                refine sat_ite (fun q_18 => ?_) (fun q_18 => ?_)
                · exact hk38 1 I36 (lit_in rfl) hRI36 ⟨rfl, trivial⟩
                · exact hk38 0 I36 (lit_in rfl) hRI36 ⟨rfl, trivial⟩
              clear ek33
              have ⟨r_19a, r_19b⟩ : -2147483648 ≤ I32 (o0 + 9) x11.toNat ∧ I32 (o0 + 9) x11.toNat < 2147483648 := hRI32.1 (o0 + 9) x11.toNat
              refine sat_ite (fun q_20 => ?_) (fun q_20 => ?_)
              · refine sat_zl (wr32_in _) (fun x43 hx43 ax43 bx43 => ?_)
                try simp (disch := omega) only [wr32_i2, wdiv_i2, wrem_i2] at hx43
                have h32a : I32 (o0 + 1) x43.toNat = y20 := by rw [show x43.toNat = (y23 + 1).toNat by omega, xI32.2]; exact pI21.1.symm
                have h32b : I32 (o0 + 9) x11.toNat = I0 (o0 + 9) x11.toNat := fI32 _ _ (by omega)
                have hy1 := pI21.1
                rw [show (140 + 6 * (40 * p1 + w5) + 1).toNat = (141 + 6 * x11).toNat by omega] at hy1
                have hy2 := pI21.2 rfl (by omega)
                have hv44 : wr32 (I32 (o0 + 1) x43.toNat - I32 (o0 + 9) x11.toNat) = y20 - I0 (o0 + 9) x11.toNat := by rw [h32a, h32b]; exact wr32_i2 (by omega) (by omega)
                refine sat_zg (by first | omega | grind | grind [wr32]) (fun g_21 => ?_)
                refine sat_zg (by first | omega | grind | grind [wr32]) (fun g_22 => ?_)
                refine sat_zg (by first | omega | grind | grind [wr32]) (fun g_23 => ?_)
                have ⟨r_24a, r_24b⟩ : -2147483648 ≤ I32 (o0 + 1) x43.toNat ∧ I32 (o0 + 1) x43.toNat < 2147483648 := hRI32.1 (o0 + 1) x43.toNat
                try have r_24many := gx_many hRI32 x43.toNat (by omega) (by omega)
                try have r_24seen := gx_seen hRI32 x43.toNat (by omega) (by omega)
                try have r_24part := gx_part hRI32 x43.toNat (by omega) (by omega)
                try have r_24rows := gx_rows hRI32 x43.toNat (by omega) (by omega) (by omega)
                refine sat_zwX1 hRI32 (wr32_in _) (cw_sz (by rw [hv44]; exact ⟨by omega, by omega, by omega, by omega, by omega⟩)) (fun I44 eI44 hRI44 => ?_)
                refine sat_zl (wr32_in _) (fun x45 hx45 ax45 bx45 => ?_)
                try simp (disch := omega) only [wr32_i2, wdiv_i2, wrem_i2] at hx45
                refine sat_zg (by first | omega | grind | grind [wr32]) (fun g_25 => ?_)
                refine sat_zl (wr32_in _) (fun x47 hx47 ax47 bx47 => ?_)
                try simp (disch := omega) only [wr32_i2, wdiv_i2, wrem_i2] at hx47
                refine sat_zg (by first | omega | grind | grind [wr32]) (fun g_26 => ?_)
                have ⟨r_27a, r_27b⟩ : -2147483648 ≤ I44 (o0 + 1) x45.toNat ∧ I44 (o0 + 1) x45.toNat < 2147483648 := hRI44.1 (o0 + 1) x45.toNat
                try have r_27many := gx_many hRI44 x45.toNat (by omega) (by omega)
                try have r_27seen := gx_seen hRI44 x45.toNat (by omega) (by omega)
                try have r_27part := gx_part hRI44 x45.toNat (by omega) (by omega)
                try have r_27rows := gx_rows hRI44 x45.toNat (by omega) (by omega) (by omega)
                refine sat_zwX1 hRI44 (hRI44.1 (o0 + 1) x45.toNat) (cw_grp (by first | omega | (simp (disch := omega) only [wr32_i2, wdiv_i2, wrem_i2]; omega) | grind)) (fun I46 eI46 hRI46 => ?_)
                exact hk33 I46 hRI46 ⟨(by intro q j hq; grind), (by first | exact fun j hj => rfl | exact fun j hj => by rw [eI46, if_neg (by omega), eI44, if_neg (by omega)])⟩
              · exact hk33 I32 hRI32 ⟨(by intro q j hq; grind), (by first | exact fun j hj => rfl | exact fun j hj => by rw [eI46, if_neg (by omega), eI44, if_neg (by omega)])⟩
        · exact hk16 w4 I0 ⟨aw4, bw4⟩ hRI0 ⟨(by intro q j hq; grind), (by first | exact ⟨by omega, by omega, fun j hj => hinv.2.2.2 j (by omega)⟩ | exact ⟨by omega, by omega, fun j hj => by rw [eI41, if_neg (by omega), eI36, if_neg (by omega), jk33 j (by omega), xI32.1 j (by omega)]; exact hinv.2.2.2 j (by omega)⟩)⟩
      clear ek12
      have ⟨r_28a, r_28b⟩ : -2147483648 ≤ I0 (o0 + 9) x11.toNat ∧ I0 (o0 + 9) x11.toNat < 2147483648 := hRI0.1 (o0 + 9) x11.toNat
      refine sat_ite (fun q_29 => ?_) (fun q_29 => ?_)
      · exact hk12 1 I0 (lit_in rfl) hRI0 ⟨rfl, trivial⟩
      · exact hk12 0 I0 (lit_in rfl) hRI0 ⟨rfl, trivial⟩
    · exact hk_254 w4 I0 ⟨aw4, bw4⟩ hRI0 ⟨(by intro q j hq; grind), (by first | omega | (simp (disch := omega) only [wr32_i2, wdiv_i2, wrem_i2]; omega) | grind | grind [wr32])⟩
