/-! safety of the reference -/
theorem ok_X_longest_4 {Ib : IMem} (fu : Nat) (o0 : Nat) (hfu : 5000000000 < fu) {Q_ : Int → IMem → Prop} (hret : ∀ v I, inr v → GX o0 I → (I = Ib ∧ (True)) → sat (zr v I) Q_) : ∀ (m : Nat) (w1 : Int) (w2 : Int) (I0 : IMem), inr w1 → inr w2 → GX o0 I0 → (I0 = Ib ∧ (1 ≤ w2 ∧ w2 ≤ 9)) → (9 - w2).toNat < m → sat (f_X_longest_4 fu o0 m w1 w2 I0) Q_ := by
  intro m
  induction m with
  | zero => intro w1 w2 I0 _ _ _ _ h0; exact absurd h0 (Nat.not_lt_zero _)
  | succ m hR_ =>
    intro w1 w2 I0 ⟨aw1, bw1⟩ ⟨aw2, bw2⟩ hRI0 hinv hmeas
    have einv := hinv.1; replace hinv := hinv.2; subst einv
    show sat (fb_X_longest_4 fu o0 (f_X_longest_4 fu o0 m) w1 w2 I0) Q_
    unfold fb_X_longest_4
    refine sat_ite (fun q_1 => ?_) (fun q_1 => ?_)
    · exact hret _ _ ⟨aw1, bw1⟩ hRI0 ⟨rfl, trivial⟩
    · refine sat_zl (wr32_in _) (fun x1 hx1 ax1 bx1 => ?_)
      try simp (disch := omega) only [wr32_i2, wdiv_i2, wrem_i2] at hx1
      refine sat_zg (by first | omega | grind | grind [wr32]) (fun g_2 => ?_)
      refine sat_zj (fun k2 ek2 => ?_)
      have hk2 : ∀ (x4 : Int) (I3 : IMem), inr x4 → GX o0 I3 → (I3 = I0 ∧ (True)) → sat (k2 x4 I3) Q_ := by
        intro x4 I3 ⟨ax4, bx4⟩ hRI3 jk2
        subst ek2
        have ejk2 := jk2.1.symm; replace jk2 := jk2.2; subst ejk2
        refine sat_zl (wr32_in _) (fun x5 hx5 ax5 bx5 => ?_)
        try simp (disch := omega) only [wr32_i2, wdiv_i2, wrem_i2] at hx5
        exact hR_ x4 x5 I0 ⟨ax4, bx4⟩ ⟨ax5, bx5⟩ hRI0 ⟨rfl, (by first | omega | (simp (disch := omega) only [wr32_i2, wdiv_i2, wrem_i2]; omega) | grind | grind [wr32])⟩ (by first | omega | (simp (disch := omega) only [wr32_i2, wdiv_i2, wrem_i2]; omega) | grind | grind [wr32])
      clear ek2
      have ⟨r_3a, r_3b⟩ : -2147483648 ≤ I0 (o0 + 1) x1.toNat ∧ I0 (o0 + 1) x1.toNat < 2147483648 := hRI0.1 (o0 + 1) x1.toNat
      try have r_3many := gx_many hRI0 x1.toNat (by omega) (by omega)
      try have r_3seen := gx_seen hRI0 x1.toNat (by omega) (by omega)
      try have r_3part := gx_part hRI0 x1.toNat (by omega) (by omega)
      try have r_3rows := gx_rows hRI0 x1.toNat (by omega) (by omega) (by omega)
      refine sat_ite (fun q_4 => ?_) (fun q_4 => ?_)
      · refine sat_zl (wr32_in _) (fun x6 hx6 ax6 bx6 => ?_)
        try simp (disch := omega) only [wr32_i2, wdiv_i2, wrem_i2] at hx6
        refine sat_zg (by first | omega | grind | grind [wr32]) (fun g_5 => ?_)
        have ⟨r_6a, r_6b⟩ : -2147483648 ≤ I0 (o0 + 1) x6.toNat ∧ I0 (o0 + 1) x6.toNat < 2147483648 := hRI0.1 (o0 + 1) x6.toNat
        try have r_6many := gx_many hRI0 x6.toNat (by omega) (by omega)
        try have r_6seen := gx_seen hRI0 x6.toNat (by omega) (by omega)
        try have r_6part := gx_part hRI0 x6.toNat (by omega) (by omega)
        try have r_6rows := gx_rows hRI0 x6.toNat (by omega) (by omega) (by omega)
        exact hk2 (I0 (o0 + 1) x6.toNat) I0 (hRI0.1 (o0 + 1) x6.toNat) hRI0 ⟨rfl, trivial⟩
      · exact hk2 w1 I0 ⟨aw1, bw1⟩ hRI0 ⟨rfl, trivial⟩
theorem ok_X_longest (fu : Nat) (o0 : Nat) (I0 : IMem) (hfu : 5000000000 < fu) (hRI0 : GX o0 I0) : sat (f_X_longest fu o0 I0) (fun v I => inr v ∧ GX o0 I ∧ (I = I0 ∧ (True))) := by
  unfold f_X_longest
  refine ok_X_longest_4 (Ib := I0) fu o0 hfu (fun v I h1 h2 h3 => sat_zr ⟨h1, h2, ⟨h3.1, (by have h4 := h3.2; first | exact trivial | exact h4 | omega | grind)⟩⟩) fu 0 1 I0 (lit_in rfl) (lit_in rfl) hRI0 ⟨rfl, (by first | omega | (simp (disch := omega) only [wr32_i2, wdiv_i2, wrem_i2]; omega) | grind | grind [wr32])⟩ (by first | omega | (simp (disch := omega) only [wr32_i2, wdiv_i2, wrem_i2]; omega) | grind | grind [wr32])
theorem ok_X_sum_4 {Ib : IMem} (fu : Nat) (o0 : Nat) (p1 : Int) (hfu : 5000000000 < fu) (qp1 : inr p1) (hp : 0 ≤ p1 ∧ p1 ≤ 1000) {Q_ : Int → IMem → Prop} (hret : ∀ v I, inr v → GX o0 I → (I = Ib ∧ (True)) → sat (zr v I) Q_) : ∀ (m : Nat) (w2 : Int) (w3 : Int) (I0 : IMem), inr w2 → inr w3 → GX o0 I0 → (I0 = Ib ∧ (1 ≤ w3 ∧ w3 ≤ 9)) → (9 - w3).toNat < m → sat (f_X_sum_4 fu o0 p1 m w2 w3 I0) Q_ := by
  intro m
  induction m with
  | zero => intro w2 w3 I0 _ _ _ _ h0; exact absurd h0 (Nat.not_lt_zero _)
  | succ m hR_ =>
    intro w2 w3 I0 ⟨aw2, bw2⟩ ⟨aw3, bw3⟩ hRI0 hinv hmeas
    have einv := hinv.1; replace hinv := hinv.2; subst einv
    show sat (fb_X_sum_4 fu o0 p1 (f_X_sum_4 fu o0 p1 m) w2 w3 I0) Q_
    unfold fb_X_sum_4
    obtain ⟨ap1, bp1⟩ := qp1
    refine sat_ite (fun q_1 => ?_) (fun q_1 => ?_)
    · exact hret _ _ ⟨aw2, bw2⟩ hRI0 ⟨rfl, trivial⟩
    · refine sat_zl (wr32_in _) (fun x1 hx1 ax1 bx1 => ?_)
      try simp (disch := omega) only [wr32_i2, wdiv_i2, wrem_i2] at hx1
      refine sat_zg (by first | omega | grind | grind [wr32]) (fun g_2 => ?_)
      have ⟨r_3a, r_3b⟩ : -2147483648 ≤ I0 (o0 + 1) x1.toNat ∧ I0 (o0 + 1) x1.toNat < 2147483648 := hRI0.1 (o0 + 1) x1.toNat
      try have r_3many := gx_many hRI0 x1.toNat (by omega) (by omega)
      try have r_3seen := gx_seen hRI0 x1.toNat (by omega) (by omega)
      try have r_3part := gx_part hRI0 x1.toNat (by omega) (by omega)
      try have r_3rows := gx_rows hRI0 x1.toNat (by omega) (by omega) (by omega)
      refine sat_zl (wr32_in _) (fun x2 hx2 ax2 bx2 => ?_)
      try simp (disch := omega) only [wr32_i2, wdiv_i2, wrem_i2] at hx2
      refine sat_zl (wr32_in _) (fun x3 hx3 ax3 bx3 => ?_)
      try simp (disch := omega) only [wr32_i2, wdiv_i2, wrem_i2] at hx3
      exact hR_ x2 x3 I0 ⟨ax2, bx2⟩ ⟨ax3, bx3⟩ hRI0 ⟨rfl, (by first | omega | (simp (disch := omega) only [wr32_i2, wdiv_i2, wrem_i2]; omega) | grind | grind [wr32])⟩ (by first | omega | (simp (disch := omega) only [wr32_i2, wdiv_i2, wrem_i2]; omega) | grind | grind [wr32])
theorem ok_X_sum (fu : Nat) (o0 : Nat) (a1 : Int) (I0 : IMem) (hfu : 5000000000 < fu) (hRI0 : GX o0 I0) (qa1 : inr a1) (h0 : 0 ≤ a1 ∧ a1 ≤ 1000) : sat (f_X_sum fu o0 a1 I0) (fun v I => inr v ∧ GX o0 I ∧ (I = I0 ∧ (True))) := by
  unfold f_X_sum
  obtain ⟨aa1, ba1⟩ := qa1
  refine ok_X_sum_4 (Ib := I0) fu o0 a1 hfu ⟨aa1, ba1⟩ (by first | omega | (simp (disch := omega) only [wr32_i2, wdiv_i2, wrem_i2]; omega) | grind | grind [wr32]) (fun v I h1 h2 h3 => sat_zr ⟨h1, h2, ⟨h3.1, (by have h4 := h3.2; first | exact trivial | exact h4 | omega | grind)⟩⟩) fu 0 1 I0 (lit_in rfl) (lit_in rfl) hRI0 ⟨rfl, (by first | omega | (simp (disch := omega) only [wr32_i2, wdiv_i2, wrem_i2]; omega) | grind | grind [wr32])⟩ (by first | omega | (simp (disch := omega) only [wr32_i2, wdiv_i2, wrem_i2]; omega) | grind | grind [wr32])
theorem ok_X_leads_37 {Ib : IMem} (fu : Nat) (k_55 : IMem → Res) (o0 : Nat) (p4 : Int) (p5 : Int) (hfu : 5000000000 < fu) (qp4 : inr p4) (qp5 : inr p5) (hp : p4 ≤ 40) (hc : Ib (o0 + 1) 70 < 1900000000) {Q_ : Int → IMem → Prop} (hk_55 : ∀ (I9 : IMem), GX o0 I9 → ((∀ q j, ¬ (q = o0 + 1 ∨ q = o0 + 7 ∨ q = o0 + 9 ∨ q = o0 + 10 ∨ q = o0 + 11 ∨ q = o0 + 12 ∨ q = o0 + 13 ∨ q = o0 + 14 ∨ (q = o0 ∧ j = 24) ∨ (q = o0 ∧ j = 30) ∨ (q = o0 ∧ j = 31) ∨ (q = o0 ∧ j = 32) ∨ (q = o0 ∧ j = 33) ∨ (q = o0 ∧ j = 34) ∨ (q = o0 ∧ j = 35) ∨ (q = o0 + 8 ∧ j = 1) ∨ (q = o0 + 8 ∧ j = 2) ∨ (q = o0 + 8 ∧ j = 3) ∨ (q = o0 + 8 ∧ j = 4) ∨ (q = o0 + 8 ∧ j = 5) ∨ (q = o0 + 8 ∧ j = 6) ∨ (q = o0 + 8 ∧ j = 7) ∨ (q = o0 + 8 ∧ j = 8) ∨ (q = o0 + 8 ∧ j = 9) ∨ (q = o0 + 8 ∧ j = 10) ∨ (q = o0 + 8 ∧ j = 11)) → I9 q j = Ib q j) ∧ (True)) → sat (k_55 I9) Q_) (hret : ∀ v I, inr v → GX o0 I → ((∀ q j, ¬ (q = o0 + 1 ∨ q = o0 + 7 ∨ q = o0 + 9 ∨ q = o0 + 10 ∨ q = o0 + 11 ∨ q = o0 + 12 ∨ q = o0 + 13 ∨ q = o0 + 14 ∨ (q = o0 ∧ j = 24) ∨ (q = o0 ∧ j = 30) ∨ (q = o0 ∧ j = 31) ∨ (q = o0 ∧ j = 32) ∨ (q = o0 ∧ j = 33) ∨ (q = o0 ∧ j = 34) ∨ (q = o0 ∧ j = 35) ∨ (q = o0 + 8 ∧ j = 1) ∨ (q = o0 + 8 ∧ j = 2) ∨ (q = o0 + 8 ∧ j = 3) ∨ (q = o0 + 8 ∧ j = 4) ∨ (q = o0 + 8 ∧ j = 5) ∨ (q = o0 + 8 ∧ j = 6) ∨ (q = o0 + 8 ∧ j = 7) ∨ (q = o0 + 8 ∧ j = 8) ∨ (q = o0 + 8 ∧ j = 9) ∨ (q = o0 + 8 ∧ j = 10) ∨ (q = o0 + 8 ∧ j = 11)) → I q j = Ib q j) ∧ (False)) → sat (zr v I) Q_) : ∀ (m : Nat) (w6 : Int) (I0 : IMem), inr w6 → GX o0 I0 → ((∀ q j, ¬ (q = o0 + 1 ∨ q = o0 + 7 ∨ q = o0 + 9 ∨ q = o0 + 10 ∨ q = o0 + 11 ∨ q = o0 + 12 ∨ q = o0 + 13 ∨ q = o0 + 14 ∨ (q = o0 ∧ j = 24) ∨ (q = o0 ∧ j = 30) ∨ (q = o0 ∧ j = 31) ∨ (q = o0 ∧ j = 32) ∨ (q = o0 ∧ j = 33) ∨ (q = o0 ∧ j = 34) ∨ (q = o0 ∧ j = 35) ∨ (q = o0 + 8 ∧ j = 1) ∨ (q = o0 + 8 ∧ j = 2) ∨ (q = o0 + 8 ∧ j = 3) ∨ (q = o0 + 8 ∧ j = 4) ∨ (q = o0 + 8 ∧ j = 5) ∨ (q = o0 + 8 ∧ j = 6) ∨ (q = o0 + 8 ∧ j = 7) ∨ (q = o0 + 8 ∧ j = 8) ∨ (q = o0 + 8 ∧ j = 9) ∨ (q = o0 + 8 ∧ j = 10) ∨ (q = o0 + 8 ∧ j = 11)) → I0 q j = Ib q j) ∧ (0 ≤ w6 ∧ w6 ≤ 40 ∧ I0 (o0 + 1) 70 = Ib (o0 + 1) 70 + w6)) → (40 - w6).toNat < m → sat (f_X_leads_37 fu k_55 o0 p4 p5 m w6 I0) Q_ := by
  intro m
  induction m with
  | zero => intro w6 I0 _ _ _ h0; exact absurd h0 (Nat.not_lt_zero _)
  | succ m hR_ =>
    intro w6 I0 ⟨aw6, bw6⟩ hRI0 hinv hmeas
    have fI0 := hinv.1; replace hinv := hinv.2
    show sat (fb_X_leads_37 fu k_55 o0 p4 p5 (f_X_leads_37 fu k_55 o0 p4 p5 m) w6 I0) Q_
    unfold fb_X_leads_37
    obtain ⟨ap4, bp4⟩ := qp4
    obtain ⟨ap5, bp5⟩ := qp5
    refine sat_ite (fun q_1 => ?_) (fun q_1 => ?_)
    · refine sat_zb (ok_X_turn fu o0 I0 hfu hRI0 (by first | omega | (simp (disch := omega) only [wr32_i2, wdiv_i2, wrem_i2]; omega) | grind | grind [wr32])) (fun y10 I11 c_2 ⟨⟨ay10, by10⟩, hRI11, pI11⟩ => ?_)
      have fI11 : ∀ q j, ¬ (q = o0 + 1 ∨ q = o0 + 7 ∨ q = o0 + 9 ∨ q = o0 + 10 ∨ q = o0 + 11 ∨ q = o0 + 12 ∨ q = o0 + 13 ∨ q = o0 + 14 ∨ (q = o0 ∧ j = 24) ∨ (q = o0 ∧ j = 30) ∨ (q = o0 ∧ j = 31) ∨ (q = o0 ∧ j = 32) ∨ (q = o0 ∧ j = 33) ∨ (q = o0 ∧ j = 34) ∨ (q = o0 ∧ j = 35) ∨ (q = o0 + 8 ∧ j = 1) ∨ (q = o0 + 8 ∧ j = 2) ∨ (q = o0 + 8 ∧ j = 3) ∨ (q = o0 + 8 ∧ j = 4) ∨ (q = o0 + 8 ∧ j = 5) ∨ (q = o0 + 8 ∧ j = 6) ∨ (q = o0 + 8 ∧ j = 7) ∨ (q = o0 + 8 ∧ j = 8) ∨ (q = o0 + 8 ∧ j = 9) ∨ (q = o0 + 8 ∧ j = 10) ∨ (q = o0 + 8 ∧ j = 11)) → I11 q j = I0 q j := fc_X_turn (fun q j => q = o0 + 1 ∨ q = o0 + 7 ∨ q = o0 + 9 ∨ q = o0 + 10 ∨ q = o0 + 11 ∨ q = o0 + 12 ∨ q = o0 + 13 ∨ q = o0 + 14 ∨ (q = o0 ∧ j = 24) ∨ (q = o0 ∧ j = 30) ∨ (q = o0 ∧ j = 31) ∨ (q = o0 ∧ j = 32) ∨ (q = o0 ∧ j = 33) ∨ (q = o0 ∧ j = 34) ∨ (q = o0 ∧ j = 35) ∨ (q = o0 + 8 ∧ j = 1) ∨ (q = o0 + 8 ∧ j = 2) ∨ (q = o0 + 8 ∧ j = 3) ∨ (q = o0 + 8 ∧ j = 4) ∨ (q = o0 + 8 ∧ j = 5) ∨ (q = o0 + 8 ∧ j = 6) ∨ (q = o0 + 8 ∧ j = 7) ∨ (q = o0 + 8 ∧ j = 8) ∨ (q = o0 + 8 ∧ j = 9) ∨ (q = o0 + 8 ∧ j = 10) ∨ (q = o0 + 8 ∧ j = 11)) fu o0 I0 (fun _ => by simp) (fun _ => by simp) (fun _ => by simp) (fun _ => by simp) (fun _ => by simp) (fun _ => by simp) (fun _ => by simp) (fun _ => by simp) (by simp) (by simp) (by simp) (by simp) (by simp) (by simp) (by simp) (by simp) (by simp) (by simp) (by simp) (by simp) (by simp) (by simp) (by simp) (by simp) (by simp) (by simp) c_2
      refine sat_zl (wr32_in _) (fun x13 hx13 ax13 bx13 => ?_)
      try simp (disch := omega) only [wr32_i2, wdiv_i2, wrem_i2] at hx13
      exact hR_ x13 I11 ⟨ax13, bx13⟩ hRI11 ⟨(by intro q j hq; grind), ⟨by omega, by omega, by omega⟩⟩ (by first | omega | (simp (disch := omega) only [wr32_i2, wdiv_i2, wrem_i2]; omega) | grind | grind [wr32])
    · exact hk_55 I0 hRI0 ⟨(by intro q j hq; grind), trivial⟩
theorem ok_X_leads (fu : Nat) (o0 : Nat) (a1 : Int) (a2 : Int) (a3 : Int) (a4 : Int) (I0 : IMem) (hfu : 5000000000 < fu) (hRI0 : GX o0 I0) (qa1 : inr a1) (qa2 : inr a2) (qa3 : inr a3) (qa4 : inr a4) (h0 : 0 ≤ a1 ∧ a1 ≤ 3 ∧ 2 ≤ a3 ∧ a3 ≤ 8 ∧ a4 ≤ 40) (hc : I0 (o0 + 1) 70 < 1900000000) : sat (f_X_leads fu o0 a1 a2 a3 a4 I0) (fun v I => inr v ∧ GX o0 I ∧ (SA o0 I0 I)) := by
  unfold f_X_leads
  obtain ⟨aa1, ba1⟩ := qa1
  obtain ⟨aa2, ba2⟩ := qa2
  obtain ⟨aa3, ba3⟩ := qa3
  obtain ⟨aa4, ba4⟩ := qa4
  refine sat_zb (ok_X_setsOut fu o0 I0 hfu hRI0 ) (fun u_1 I2 c_2 ⟨⟨au_1, bu_1⟩, hRI2, pI2⟩ => ?_)
  have fI2 : ∀ q j, ¬ (q = o0 + 3 ∨ q = o0 + 23 ∨ q = o0 + 24 ∨ (q = o0 ∧ j = 50)) → I2 q j = I0 q j := fc_X_setsOut (fun q j => q = o0 + 3 ∨ q = o0 + 23 ∨ q = o0 + 24 ∨ (q = o0 ∧ j = 50)) fu o0 I0 (fun _ => by simp) (fun _ => by simp) (fun _ => by simp) (by simp) c_2
  have hc2 : I2 (o0 + 1) 70 = I0 (o0 + 1) 70 := pI2.2.2.2.2 _ _ (by omega) (by omega) (by omega) (by omega)
  refine sat_zb (ok_X_sum fu o0 90 I2 hfu hRI2 (lit_in rfl) (by first | omega | (simp (disch := omega) only [wr32_i2, wdiv_i2, wrem_i2]; omega) | grind | grind [wr32])) (fun y4 I5 c_3 ⟨⟨ay4, by4⟩, _, pI5⟩ => ?_)
  have eI5 := pI5.1.symm; replace pI5 := pI5.2; subst eI5
  refine sat_zwX1 hRI2 ⟨aa1, ba1⟩ (cw_6 (by omega)) (fun I7 eI7 hRI7 => ?_)
  refine sat_zwX1 hRI7 ⟨aa2, ba2⟩ (cw_f1 (by decide)) (fun I8 eI8 hRI8 => ?_)
  refine sat_zwX1 hRI8 ⟨aa3, ba3⟩ (cw_1 (by omega)) (fun I9 eI9 hRI9 => ?_)
  have hc9 : I9 (o0 + 1) 70 = I0 (o0 + 1) 70 := by rw [eI9, if_neg (by omega), eI8, if_neg (by omega), eI7, if_neg (by omega)]; exact hc2
  refine ok_X_leads_37 (Ib := I9) fu _ o0 a4 y4 hfu ⟨aa4, ba4⟩ ⟨ay4, by4⟩ (by first | omega | (simp (disch := omega) only [wr32_i2, wdiv_i2, wrem_i2]; omega) | grind | grind [wr32]) (by first | omega | (simp (disch := omega) only [wr32_i2, wdiv_i2, wrem_i2]; omega) | grind | grind [wr32]) ?_ (fun v I h1 h2 h3 => sat_zr ⟨h1, h2, (by first | exact h3.elim | exact h3.2.elim)⟩) fu 0 I9 (lit_in rfl) hRI9 ⟨(fun _ _ _ => rfl), (by first | omega | (simp (disch := omega) only [wr32_i2, wdiv_i2, wrem_i2]; omega) | grind | grind [wr32])⟩ (by first | omega | (simp (disch := omega) only [wr32_i2, wdiv_i2, wrem_i2]; omega) | grind | grind [wr32])
  · intro I14  hRI14 xI14
    have fI14 := xI14.1; replace xI14 := xI14.2
    have ⟨r_4a, r_4b⟩ : -2147483648 ≤ I14 (o0 + 1) 71 ∧ I14 (o0 + 1) 71 < 2147483648 := hRI14.1 (o0 + 1) 71
    have ⟨r_5a, r_5b⟩ : -2147483648 ≤ I14 (o0 + 3) 71 ∧ I14 (o0 + 3) 71 < 2147483648 := hRI14.1 (o0 + 3) 71
    refine sat_zwXn (c := 25) hRI14 (wr32_in _) (by decide) (Or.inl (by decide)) (fun I15 eI15 hRI15 => ?_)
    have ⟨r_6a, r_6b⟩ : -2147483648 ≤ I15 (o0 + 1) 72 ∧ I15 (o0 + 1) 72 < 2147483648 := hRI15.1 (o0 + 1) 72
    have ⟨r_7a, r_7b⟩ : -2147483648 ≤ I15 (o0 + 3) 72 ∧ I15 (o0 + 3) 72 < 2147483648 := hRI15.1 (o0 + 3) 72
    refine sat_zwXn (c := 25) hRI15 (wr32_in _) (by decide) (Or.inl (by decide)) (fun I16 eI16 hRI16 => ?_)
    refine sat_zb (ok_X_sum fu o0 90 I16 hfu hRI16 (lit_in rfl) (by first | omega | (simp (disch := omega) only [wr32_i2, wdiv_i2, wrem_i2]; omega) | grind | grind [wr32])) (fun y17 I18 c_8 ⟨⟨ay17, by17⟩, _, pI18⟩ => ?_)
    have eI18 := pI18.1.symm; replace pI18 := pI18.2; subst eI18
    refine sat_zwXn (c := 25) hRI16 (wr32_in _) (by decide) (Or.inl (by decide)) (fun I20 eI20 hRI20 => ?_)
    have ⟨r_9a, r_9b⟩ : -2147483648 ≤ I20 (o0 + 1) 76 ∧ I20 (o0 + 1) 76 < 2147483648 := hRI20.1 (o0 + 1) 76
    have ⟨r_10a, r_10b⟩ : -2147483648 ≤ I20 (o0 + 3) 76 ∧ I20 (o0 + 3) 76 < 2147483648 := hRI20.1 (o0 + 3) 76
    refine sat_zwXn (c := 25) hRI20 (wr32_in _) (by decide) (Or.inl (by decide)) (fun I21 eI21 hRI21 => ?_)
    have ⟨r_11a, r_11b⟩ : -2147483648 ≤ I21 (o0 + 1) 75 ∧ I21 (o0 + 1) 75 < 2147483648 := hRI21.1 (o0 + 1) 75
    have ⟨r_12a, r_12b⟩ : -2147483648 ≤ I21 (o0 + 3) 75 ∧ I21 (o0 + 3) 75 < 2147483648 := hRI21.1 (o0 + 3) 75
    refine sat_zwXn (c := 25) hRI21 (wr32_in _) (by decide) (Or.inl (by decide)) (fun I22 eI22 hRI22 => ?_)
    refine sat_zb (ok_X_longest fu o0 I22 hfu hRI22 ) (fun y23 I24 c_13 ⟨⟨ay23, by23⟩, _, pI24⟩ => ?_)
    have eI24 := pI24.1.symm; replace pI24 := pI24.2; subst eI24
    refine sat_zwXn (c := 25) hRI22 ⟨ay23, by23⟩ (by decide) (Or.inl (by decide)) (fun I26 eI26 hRI26 => ?_)
    have h26 : ∀ q j, q ≠ o0 + 25 → I26 q j = I14 q j := fun q j h => by rw [eI26, if_neg (by omega), eI22, if_neg (by omega), eI21, if_neg (by omega), eI20, if_neg (by omega), eI16, if_neg (by omega), eI15, if_neg (by omega)]
    have h9 : ∀ q j, q ≠ o0 + 1 → I9 q j = I2 q j := fun q j h => by rw [eI9, if_neg (by omega), eI8, if_neg (by omega), eI7, if_neg (by omega)]
    have hcb : ∀ q j, (q = o0 + 3 ∨ q = o0 + 23 ∨ q = o0 + 24 ∨ (q = o0 ∧ j = 50)) → I26 q j = I2 q j := fun q j h => (h26 q j (by omega)).trans ((fI14 q j (by omega)).trans (h9 q j (by omega)))
    have hwx := wx_so hRI0 pI2 hcb
    refine sat_zb (ok_X_comesBack fu o0 I26 hfu hRI26 (by first | omega | (simp (disch := omega) only [wr32_i2, wdiv_i2, wrem_i2]; omega) | grind | grind [wr32])) (fun u_14 I28 c_15 ⟨⟨au_14, bu_14⟩, hRI28, pI28⟩ => ?_)
    have fI28 : ∀ q j, ¬ (q = o0 + 1 ∨ q = o0 + 13 ∨ q = o0 + 15 ∨ (q = o0 ∧ j = 35)) → I28 q j = I26 q j := fc_X_comesBack (fun q j => q = o0 + 1 ∨ q = o0 + 13 ∨ q = o0 + 15 ∨ (q = o0 ∧ j = 35)) fu o0 I26 (fun _ => by simp) (fun _ => by simp) (fun _ => by simp) (by simp) c_15
    exact sat_zr ⟨(lit_in rfl), hRI28, (sa_so pI2 hcb pI28)⟩
theorem ok_X_thought (fu : Nat) (o0 : Nat) (a1 : Int) (a2 : Int) (a3 : Int) (a4 : Int) (a5 : Int) (I0 : IMem) (hfu : 5000000000 < fu) (hRI0 : GX o0 I0) (qa1 : inr a1) (qa2 : inr a2) (qa3 : inr a3) (qa4 : inr a4) (qa5 : inr a5) (hc : I0 (o0 + 1) 70 < 1900000000) : sat (f_X_thought fu o0 a1 a2 a3 a4 a5 I0) (fun v I => inr v ∧ GX o0 I ∧ (SA o0 I0 I)) := by
  unfold f_X_thought
  obtain ⟨aa1, ba1⟩ := qa1
  obtain ⟨aa2, ba2⟩ := qa2
  obtain ⟨aa3, ba3⟩ := qa3
  obtain ⟨aa4, ba4⟩ := qa4
  obtain ⟨aa5, ba5⟩ := qa5
  refine sat_zb (ok_X_isIn fu a1 0 3 I0 hfu hRI0.1 ⟨aa1, ba1⟩ (lit_in rfl) (lit_in rfl)) (fun y1 I2 c_1 ⟨⟨ay1, by1⟩, _, pI2⟩ => ?_)
  have eI2 := pI2.1.symm; replace pI2 := pI2.2; subst eI2
  refine sat_ite (fun q_2 => ?_) (fun q_2 => ?_)
  · exact sat_zr ⟨(lit_in rfl), hRI0, (by first | exact pI17 | exact sa_rfl)⟩
  · refine sat_zb (ok_X_isIn fu a2 0 99 I0 hfu hRI0.1 ⟨aa2, ba2⟩ (lit_in rfl) (lit_in rfl)) (fun y4 I5 c_3 ⟨⟨ay4, by4⟩, _, pI5⟩ => ?_)
    have eI5 := pI5.1.symm; replace pI5 := pI5.2; subst eI5
    refine sat_ite (fun q_4 => ?_) (fun q_4 => ?_)
    · exact sat_zr ⟨(lit_in rfl), hRI0, (by first | exact pI17 | exact sa_rfl)⟩
    · refine sat_zb (ok_X_isIn fu a3 2 8 I0 hfu hRI0.1 ⟨aa3, ba3⟩ (lit_in rfl) (lit_in rfl)) (fun y7 I8 c_5 ⟨⟨ay7, by7⟩, _, pI8⟩ => ?_)
      have eI8 := pI8.1.symm; replace pI8 := pI8.2; subst eI8
      refine sat_ite (fun q_6 => ?_) (fun q_6 => ?_)
      · exact sat_zr ⟨(lit_in rfl), hRI0, (by first | exact pI17 | exact sa_rfl)⟩
      · refine sat_zb (ok_X_isIn fu a4 1 40 I0 hfu hRI0.1 ⟨aa4, ba4⟩ (lit_in rfl) (lit_in rfl)) (fun y10 I11 c_7 ⟨⟨ay10, by10⟩, _, pI11⟩ => ?_)
        have eI11 := pI11.1.symm; replace pI11 := pI11.2; subst eI11
        refine sat_ite (fun q_8 => ?_) (fun q_8 => ?_)
        · exact sat_zr ⟨(lit_in rfl), hRI0, (by first | exact pI17 | exact sa_rfl)⟩
        · refine sat_zb (ok_X_isIn fu a5 0 5 I0 hfu hRI0.1 ⟨aa5, ba5⟩ (lit_in rfl) (lit_in rfl)) (fun y13 I14 c_9 ⟨⟨ay13, by13⟩, _, pI14⟩ => ?_)
          have eI14 := pI14.1.symm; replace pI14 := pI14.2; subst eI14
          refine sat_ite (fun q_10 => ?_) (fun q_10 => ?_)
          · exact sat_zr ⟨(lit_in rfl), hRI0, (by first | exact pI17 | exact sa_rfl)⟩
          · refine sat_zb (ok_X_leads fu o0 a1 a2 a3 a4 I0 hfu hRI0 ⟨aa1, ba1⟩ ⟨aa2, ba2⟩ ⟨aa3, ba3⟩ ⟨aa4, ba4⟩ (by first | omega | (simp (disch := omega) only [wr32_i2, wdiv_i2, wrem_i2]; omega) | grind | grind [wr32]) (by first | omega | (simp (disch := omega) only [wr32_i2, wdiv_i2, wrem_i2]; omega) | grind | grind [wr32])) (fun u_11 I17 c_12 ⟨⟨au_11, bu_11⟩, hRI17, pI17⟩ => ?_)
            have fI17 : ∀ q j, ¬ (q = o0 + 1 ∨ q = o0 + 3 ∨ q = o0 + 7 ∨ q = o0 + 9 ∨ q = o0 + 10 ∨ q = o0 + 11 ∨ q = o0 + 12 ∨ q = o0 + 13 ∨ q = o0 + 14 ∨ q = o0 + 15 ∨ q = o0 + 23 ∨ q = o0 + 24 ∨ (q = o0 ∧ j = 24) ∨ (q = o0 ∧ j = 30) ∨ (q = o0 ∧ j = 31) ∨ (q = o0 ∧ j = 32) ∨ (q = o0 ∧ j = 33) ∨ (q = o0 ∧ j = 34) ∨ (q = o0 ∧ j = 35) ∨ (q = o0 ∧ j = 50) ∨ (q = o0 + 8 ∧ j = 1) ∨ (q = o0 + 8 ∧ j = 2) ∨ (q = o0 + 8 ∧ j = 3) ∨ (q = o0 + 8 ∧ j = 4) ∨ (q = o0 + 8 ∧ j = 5) ∨ (q = o0 + 8 ∧ j = 6) ∨ (q = o0 + 8 ∧ j = 7) ∨ (q = o0 + 8 ∧ j = 8) ∨ (q = o0 + 8 ∧ j = 9) ∨ (q = o0 + 8 ∧ j = 10) ∨ (q = o0 + 8 ∧ j = 11) ∨ (q = o0 + 25 ∧ j = 0) ∨ (q = o0 + 25 ∧ j = 1) ∨ (q = o0 + 25 ∧ j = 2) ∨ (q = o0 + 25 ∧ j = 3) ∨ (q = o0 + 25 ∧ j = 4) ∨ (q = o0 + 25 ∧ j = 5)) → I17 q j = I0 q j := fc_X_leads (fun q j => q = o0 + 1 ∨ q = o0 + 3 ∨ q = o0 + 7 ∨ q = o0 + 9 ∨ q = o0 + 10 ∨ q = o0 + 11 ∨ q = o0 + 12 ∨ q = o0 + 13 ∨ q = o0 + 14 ∨ q = o0 + 15 ∨ q = o0 + 23 ∨ q = o0 + 24 ∨ (q = o0 ∧ j = 24) ∨ (q = o0 ∧ j = 30) ∨ (q = o0 ∧ j = 31) ∨ (q = o0 ∧ j = 32) ∨ (q = o0 ∧ j = 33) ∨ (q = o0 ∧ j = 34) ∨ (q = o0 ∧ j = 35) ∨ (q = o0 ∧ j = 50) ∨ (q = o0 + 8 ∧ j = 1) ∨ (q = o0 + 8 ∧ j = 2) ∨ (q = o0 + 8 ∧ j = 3) ∨ (q = o0 + 8 ∧ j = 4) ∨ (q = o0 + 8 ∧ j = 5) ∨ (q = o0 + 8 ∧ j = 6) ∨ (q = o0 + 8 ∧ j = 7) ∨ (q = o0 + 8 ∧ j = 8) ∨ (q = o0 + 8 ∧ j = 9) ∨ (q = o0 + 8 ∧ j = 10) ∨ (q = o0 + 8 ∧ j = 11) ∨ (q = o0 + 25 ∧ j = 0) ∨ (q = o0 + 25 ∧ j = 1) ∨ (q = o0 + 25 ∧ j = 2) ∨ (q = o0 + 25 ∧ j = 3) ∨ (q = o0 + 25 ∧ j = 4) ∨ (q = o0 + 25 ∧ j = 5)) fu o0 a1 a2 a3 a4 I0 (fun _ => by simp) (fun _ => by simp) (fun _ => by simp) (fun _ => by simp) (fun _ => by simp) (fun _ => by simp) (fun _ => by simp) (fun _ => by simp) (fun _ => by simp) (fun _ => by simp) (fun _ => by simp) (fun _ => by simp) (by simp) (by simp) (by simp) (by simp) (by simp) (by simp) (by simp) (by simp) (by simp) (by simp) (by simp) (by simp) (by simp) (by simp) (by simp) (by simp) (by simp) (by simp) (by simp) (by simp) (by simp) (by simp) (by simp) (by simp) (by simp) c_12
            refine sat_zg (by first | omega | grind | grind [wr32]) (fun g_13 => ?_)
            have ⟨r_14a, r_14b⟩ : -2147483648 ≤ I17 (o0 + 25) a5.toNat ∧ I17 (o0 + 25) a5.toNat < 2147483648 := hRI17.1 (o0 + 25) a5.toNat
            exact sat_zr ⟨(hRI17.1 (o0 + 25) a5.toNat), hRI17, (by first | exact pI17 | exact sa_rfl)⟩
theorem ok_X_price (fu : Nat) (o0 : Nat) (a1 : Int) (a2 : Int) (I0 : IMem) (hfu : 5000000000 < fu) (hRI0 : GX o0 I0) (qa1 : inr a1) (qa2 : inr a2) (hc : I0 (o0 + 1) 70 < 1900000000) : sat (f_X_price fu o0 a1 a2 I0) (fun v I => inr v ∧ GX o0 I ∧ (SA o0 I0 I)) := by
  unfold f_X_price
  obtain ⟨aa1, ba1⟩ := qa1
  obtain ⟨aa2, ba2⟩ := qa2
  have hga := gx_a hRI0
  refine sat_zb (ok_X_isIn fu a1 0 99 I0 hfu hRI0.1 ⟨aa1, ba1⟩ (lit_in rfl) (lit_in rfl)) (fun y1 I2 c_1 ⟨⟨ay1, by1⟩, _, pI2⟩ => ?_)
  have eI2 := pI2.1.symm; replace pI2 := pI2.2; subst eI2
  refine sat_ite (fun q_2 => ?_) (fun q_2 => ?_)
  · exact sat_zr ⟨(lit_in rfl), hRI0, (by first | exact sa_t pI8 pI12 | exact sa_rfl)⟩
  · refine sat_zb (ok_X_isIn fu a2 1 40 I0 hfu hRI0.1 ⟨aa2, ba2⟩ (lit_in rfl) (lit_in rfl)) (fun y4 I5 c_3 ⟨⟨ay4, by4⟩, _, pI5⟩ => ?_)
    have eI5 := pI5.1.symm; replace pI5 := pI5.2; subst eI5
    refine sat_ite (fun q_4 => ?_) (fun q_4 => ?_)
    · exact sat_zr ⟨(lit_in rfl), hRI0, (by first | exact sa_t pI8 pI12 | exact sa_rfl)⟩
    · have ⟨r_7a, r_7b⟩ : -2147483648 ≤ I0 (o0 + 1) 6 ∧ I0 (o0 + 1) 6 < 2147483648 := hRI0.1 (o0 + 1) 6
      have r_7g := gx_a hRI0
      have ⟨r_8a, r_8b⟩ : -2147483648 ≤ I0 (o0 + 1) 1 ∧ I0 (o0 + 1) 1 < 2147483648 := hRI0.1 (o0 + 1) 1
      refine sat_zb (ok_X_leads fu o0 (I0 (o0 + 1) 6) a1 (I0 (o0 + 1) 1) a2 I0 hfu hRI0 (hRI0.1 (o0 + 1) 6) ⟨aa1, ba1⟩ (hRI0.1 (o0 + 1) 1) ⟨aa2, ba2⟩ (by first | omega | (simp (disch := omega) only [wr32_i2, wdiv_i2, wrem_i2]; omega) | grind | grind [wr32]) (by first | omega | (simp (disch := omega) only [wr32_i2, wdiv_i2, wrem_i2]; omega) | grind | grind [wr32])) (fun u_5 I8 c_6 ⟨⟨au_5, bu_5⟩, hRI8, pI8⟩ => ?_)
      have fI8 : ∀ q j, ¬ (q = o0 + 1 ∨ q = o0 + 3 ∨ q = o0 + 7 ∨ q = o0 + 9 ∨ q = o0 + 10 ∨ q = o0 + 11 ∨ q = o0 + 12 ∨ q = o0 + 13 ∨ q = o0 + 14 ∨ q = o0 + 15 ∨ q = o0 + 23 ∨ q = o0 + 24 ∨ (q = o0 ∧ j = 24) ∨ (q = o0 ∧ j = 30) ∨ (q = o0 ∧ j = 31) ∨ (q = o0 ∧ j = 32) ∨ (q = o0 ∧ j = 33) ∨ (q = o0 ∧ j = 34) ∨ (q = o0 ∧ j = 35) ∨ (q = o0 ∧ j = 50) ∨ (q = o0 + 8 ∧ j = 1) ∨ (q = o0 + 8 ∧ j = 2) ∨ (q = o0 + 8 ∧ j = 3) ∨ (q = o0 + 8 ∧ j = 4) ∨ (q = o0 + 8 ∧ j = 5) ∨ (q = o0 + 8 ∧ j = 6) ∨ (q = o0 + 8 ∧ j = 7) ∨ (q = o0 + 8 ∧ j = 8) ∨ (q = o0 + 8 ∧ j = 9) ∨ (q = o0 + 8 ∧ j = 10) ∨ (q = o0 + 8 ∧ j = 11) ∨ (q = o0 + 25 ∧ j = 0) ∨ (q = o0 + 25 ∧ j = 1) ∨ (q = o0 + 25 ∧ j = 2) ∨ (q = o0 + 25 ∧ j = 3) ∨ (q = o0 + 25 ∧ j = 4) ∨ (q = o0 + 25 ∧ j = 5)) → I8 q j = I0 q j := fc_X_leads (fun q j => q = o0 + 1 ∨ q = o0 + 3 ∨ q = o0 + 7 ∨ q = o0 + 9 ∨ q = o0 + 10 ∨ q = o0 + 11 ∨ q = o0 + 12 ∨ q = o0 + 13 ∨ q = o0 + 14 ∨ q = o0 + 15 ∨ q = o0 + 23 ∨ q = o0 + 24 ∨ (q = o0 ∧ j = 24) ∨ (q = o0 ∧ j = 30) ∨ (q = o0 ∧ j = 31) ∨ (q = o0 ∧ j = 32) ∨ (q = o0 ∧ j = 33) ∨ (q = o0 ∧ j = 34) ∨ (q = o0 ∧ j = 35) ∨ (q = o0 ∧ j = 50) ∨ (q = o0 + 8 ∧ j = 1) ∨ (q = o0 + 8 ∧ j = 2) ∨ (q = o0 + 8 ∧ j = 3) ∨ (q = o0 + 8 ∧ j = 4) ∨ (q = o0 + 8 ∧ j = 5) ∨ (q = o0 + 8 ∧ j = 6) ∨ (q = o0 + 8 ∧ j = 7) ∨ (q = o0 + 8 ∧ j = 8) ∨ (q = o0 + 8 ∧ j = 9) ∨ (q = o0 + 8 ∧ j = 10) ∨ (q = o0 + 8 ∧ j = 11) ∨ (q = o0 + 25 ∧ j = 0) ∨ (q = o0 + 25 ∧ j = 1) ∨ (q = o0 + 25 ∧ j = 2) ∨ (q = o0 + 25 ∧ j = 3) ∨ (q = o0 + 25 ∧ j = 4) ∨ (q = o0 + 25 ∧ j = 5)) fu o0 (I0 (o0 + 1) 6) a1 (I0 (o0 + 1) 1) a2 I0 (fun _ => by simp) (fun _ => by simp) (fun _ => by simp) (fun _ => by simp) (fun _ => by simp) (fun _ => by simp) (fun _ => by simp) (fun _ => by simp) (fun _ => by simp) (fun _ => by simp) (fun _ => by simp) (fun _ => by simp) (by simp) (by simp) (by simp) (by simp) (by simp) (by simp) (by simp) (by simp) (by simp) (by simp) (by simp) (by simp) (by simp) (by simp) (by simp) (by simp) (by simp) (by simp) (by simp) (by simp) (by simp) (by simp) (by simp) (by simp) (by simp) c_6
      have hcI8 := pI8.1 70 (by decide)
      have hgI8 := gx_a hRI8
      have ⟨r_9a, r_9b⟩ : -2147483648 ≤ I8 (o0 + 25) 0 ∧ I8 (o0 + 25) 0 < 2147483648 := hRI8.1 (o0 + 25) 0
      refine sat_zl (hRI8.1 (o0 + 25) 0) (fun x10 hx10 ax10 bx10 => ?_)
      have ⟨r_12a, r_12b⟩ : -2147483648 ≤ I8 (o0 + 1) 6 ∧ I8 (o0 + 1) 6 < 2147483648 := hRI8.1 (o0 + 1) 6
      have r_12g := gx_a hRI8
      have ⟨r_13a, r_13b⟩ : -2147483648 ≤ I8 (o0 + 1) 1 ∧ I8 (o0 + 1) 1 < 2147483648 := hRI8.1 (o0 + 1) 1
      refine sat_zb (ok_X_leads fu o0 (I8 (o0 + 1) 6) 0 (I8 (o0 + 1) 1) a2 I8 hfu hRI8 (hRI8.1 (o0 + 1) 6) (lit_in rfl) (hRI8.1 (o0 + 1) 1) ⟨aa2, ba2⟩ (by first | omega | (simp (disch := omega) only [wr32_i2, wdiv_i2, wrem_i2]; omega) | grind | grind [wr32]) (by first | omega | (simp (disch := omega) only [wr32_i2, wdiv_i2, wrem_i2]; omega) | grind | grind [wr32])) (fun u_10 I12 c_11 ⟨⟨au_10, bu_10⟩, hRI12, pI12⟩ => ?_)
      have fI12 : ∀ q j, ¬ (q = o0 + 1 ∨ q = o0 + 3 ∨ q = o0 + 7 ∨ q = o0 + 9 ∨ q = o0 + 10 ∨ q = o0 + 11 ∨ q = o0 + 12 ∨ q = o0 + 13 ∨ q = o0 + 14 ∨ q = o0 + 15 ∨ q = o0 + 23 ∨ q = o0 + 24 ∨ (q = o0 ∧ j = 24) ∨ (q = o0 ∧ j = 30) ∨ (q = o0 ∧ j = 31) ∨ (q = o0 ∧ j = 32) ∨ (q = o0 ∧ j = 33) ∨ (q = o0 ∧ j = 34) ∨ (q = o0 ∧ j = 35) ∨ (q = o0 ∧ j = 50) ∨ (q = o0 + 8 ∧ j = 1) ∨ (q = o0 + 8 ∧ j = 2) ∨ (q = o0 + 8 ∧ j = 3) ∨ (q = o0 + 8 ∧ j = 4) ∨ (q = o0 + 8 ∧ j = 5) ∨ (q = o0 + 8 ∧ j = 6) ∨ (q = o0 + 8 ∧ j = 7) ∨ (q = o0 + 8 ∧ j = 8) ∨ (q = o0 + 8 ∧ j = 9) ∨ (q = o0 + 8 ∧ j = 10) ∨ (q = o0 + 8 ∧ j = 11) ∨ (q = o0 + 25 ∧ j = 0) ∨ (q = o0 + 25 ∧ j = 1) ∨ (q = o0 + 25 ∧ j = 2) ∨ (q = o0 + 25 ∧ j = 3) ∨ (q = o0 + 25 ∧ j = 4) ∨ (q = o0 + 25 ∧ j = 5)) → I12 q j = I8 q j := fc_X_leads (fun q j => q = o0 + 1 ∨ q = o0 + 3 ∨ q = o0 + 7 ∨ q = o0 + 9 ∨ q = o0 + 10 ∨ q = o0 + 11 ∨ q = o0 + 12 ∨ q = o0 + 13 ∨ q = o0 + 14 ∨ q = o0 + 15 ∨ q = o0 + 23 ∨ q = o0 + 24 ∨ (q = o0 ∧ j = 24) ∨ (q = o0 ∧ j = 30) ∨ (q = o0 ∧ j = 31) ∨ (q = o0 ∧ j = 32) ∨ (q = o0 ∧ j = 33) ∨ (q = o0 ∧ j = 34) ∨ (q = o0 ∧ j = 35) ∨ (q = o0 ∧ j = 50) ∨ (q = o0 + 8 ∧ j = 1) ∨ (q = o0 + 8 ∧ j = 2) ∨ (q = o0 + 8 ∧ j = 3) ∨ (q = o0 + 8 ∧ j = 4) ∨ (q = o0 + 8 ∧ j = 5) ∨ (q = o0 + 8 ∧ j = 6) ∨ (q = o0 + 8 ∧ j = 7) ∨ (q = o0 + 8 ∧ j = 8) ∨ (q = o0 + 8 ∧ j = 9) ∨ (q = o0 + 8 ∧ j = 10) ∨ (q = o0 + 8 ∧ j = 11) ∨ (q = o0 + 25 ∧ j = 0) ∨ (q = o0 + 25 ∧ j = 1) ∨ (q = o0 + 25 ∧ j = 2) ∨ (q = o0 + 25 ∧ j = 3) ∨ (q = o0 + 25 ∧ j = 4) ∨ (q = o0 + 25 ∧ j = 5)) fu o0 (I8 (o0 + 1) 6) 0 (I8 (o0 + 1) 1) a2 I8 (fun _ => by simp) (fun _ => by simp) (fun _ => by simp) (fun _ => by simp) (fun _ => by simp) (fun _ => by simp) (fun _ => by simp) (fun _ => by simp) (fun _ => by simp) (fun _ => by simp) (fun _ => by simp) (fun _ => by simp) (by simp) (by simp) (by simp) (by simp) (by simp) (by simp) (by simp) (by simp) (by simp) (by simp) (by simp) (by simp) (by simp) (by simp) (by simp) (by simp) (by simp) (by simp) (by simp) (by simp) (by simp) (by simp) (by simp) (by simp) (by simp) c_11
      have hcI12 := pI12.1 70 (by decide)
      have hgI12 := gx_a hRI12
      have ⟨r_14a, r_14b⟩ : -2147483648 ≤ I12 (o0 + 25) 0 ∧ I12 (o0 + 25) 0 < 2147483648 := hRI12.1 (o0 + 25) 0
      exact sat_zr ⟨(wr32_in _), hRI12, (by first | exact sa_t pI8 pI12 | exact sa_rfl)⟩
