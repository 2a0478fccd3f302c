/-! safety of the reference -/
theorem ok_X_best (fu : Nat) (o0 : Nat) (a1 : Int) (I0 : IMem) (hfu : 5000000000 < fu) (hRI0 : GX o0 I0) (qa1 : inr a1) : sat (f_X_best fu o0 a1 I0) (fun v I => inr v ∧ GX o0 I ∧ (True)) := by
  unfold f_X_best
  obtain ⟨aa1, ba1⟩ := qa1
  refine sat_zb (ok_X_reckons fu o0 I0 hfu hRI0 ) (fun u_1 I2 c_2 ⟨⟨au_1, bu_1⟩, hRI2, pI2⟩ => ?_)
  have fI2 : ∀ q j, ¬ (q = o0 + 16 ∨ q = o0 + 17 ∨ (q = o0 ∧ j = 40)) → I2 q j = I0 q j := fc_X_reckons (fun q j => q = o0 + 16 ∨ q = o0 + 17 ∨ (q = o0 ∧ j = 40)) fu o0 I0 (fun _ => by simp) (fun _ => by simp) (by simp) c_2
  have hr40 := pI2.2.1
  have hr40a := pI2.1
  have hga := gx_a hRI2
  have ⟨r_3a, r_3b⟩ : -2147483648 ≤ I2 (o0 + 1) 1 ∧ I2 (o0 + 1) 1 < 2147483648 := hRI2.1 (o0 + 1) 1
  have r_3g := gx_a hRI2
  refine sat_zl (hRI2.1 (o0 + 1) 1) (fun x4 hx4 ax4 bx4 => ?_)
  refine sat_ite (fun q_4 => ?_) (fun q_4 => ?_)
  · refine sat_zb (ok_X_spot fu 0 x4 0 I2 hfu hRI2.1 (lit_in rfl) ⟨ax4, bx4⟩ (lit_in rfl) (by first | omega | (simp (disch := omega) only [wr32_i2, wdiv_i2, wrem_i2]; omega) | grind | grind [wr32])) (fun y27 I28 c_5 ⟨⟨ay27, by27⟩, _, pI28⟩ => ?_)
    have eI28 := pI28.1.symm; replace pI28 := pI28.2; subst eI28
    refine sat_zg (by first | omega | grind | grind [wr32]) (fun g_6 => ?_)
    have ⟨r_7a, r_7b⟩ : -2147483648 ≤ I2 (o0 + 17) y27.toNat ∧ I2 (o0 + 17) y27.toNat < 2147483648 := hRI2.1 (o0 + 17) y27.toNat
    exact sat_zr ⟨(hRI2.1 (o0 + 17) y27.toNat), hRI2, trivial⟩
  · refine ok_X_best_35 (Ib := I2) fu _ _ o0 a1 hfu ⟨aa1, ba1⟩ (by first | omega | (simp (disch := omega) only [wr32_i2, wdiv_i2, wrem_i2]; omega) | grind | grind [wr32]) ?_ ?_ (fun v I h1 h2 h3 => sat_zr ⟨h1, h2, (by first | exact h3.elim | exact h3.2.elim)⟩) fu x4 0 0 0 I2 ⟨ax4, bx4⟩ (lit_in rfl) (lit_in rfl) (lit_in rfl) hRI2 ⟨rfl, (by first | omega | (simp (disch := omega) only [wr32_i2, wdiv_i2, wrem_i2]; omega) | grind | grind [wr32])⟩ (by first | omega | (simp (disch := omega) only [wr32_i2, wdiv_i2, wrem_i2]; omega) | grind | grind [wr32])
    · intro x24 I23 ⟨ax24, bx24⟩ hRI23 xI23
      have exI23 := xI23.1.symm; replace xI23 := xI23.2; subst exI23
      refine sat_zg (by first | omega | grind | grind [wr32]) (fun g_8 => ?_)
      refine sat_zg (by first | omega | grind | grind [wr32]) (fun g_9 => ?_)
      have ⟨r_10a, r_10b⟩ : -2147483648 ≤ I2 (o0 + 16) x24.toNat ∧ I2 (o0 + 16) x24.toNat < 2147483648 := hRI2.1 (o0 + 16) x24.toNat
      exact sat_zr ⟨(wr32_in _), hRI2, trivial⟩
    · intro x26 I25 ⟨ax26, bx26⟩ hRI25 xI25
      have exI25 := xI25.1.symm; replace xI25 := xI25.2; subst exI25
      refine sat_ite (fun q_11 => ?_) (fun q_11 => ?_)
      · exact sat_zr ⟨⟨ax26, bx26⟩, hRI2, trivial⟩
      · exact sat_zr ⟨(lit_in rfl), hRI2, trivial⟩
theorem ok_X_look (fu : Nat) (o0 : Nat) (a1 : Int) (I0 : IMem) (hfu : 5000000000 < fu) (hRI0 : GX o0 I0) (qa1 : inr a1) : sat (f_X_look fu o0 a1 I0) (fun v I => inr v ∧ GX o0 I ∧ (True)) := by
  unfold f_X_look
  obtain ⟨aa1, ba1⟩ := qa1
  refine sat_zb (ok_X_isLine fu a1 I0 hfu hRI0.1 ⟨aa1, ba1⟩) (fun y1 I2 c_1 ⟨⟨ay1, by1⟩, _, pI2⟩ => ?_)
  have eI2 := pI2.1.symm; replace pI2 := pI2.2; subst eI2
  refine sat_ite (fun q_2 => ?_) (fun q_2 => ?_)
  · exact sat_zr ⟨(lit_in rfl), hRI0, trivial⟩
  · refine sat_zl (wr32_in _) (fun x4 hx4 ax4 bx4 => ?_)
    try simp (disch := omega) only [wr32_i2, wdiv_i2, wrem_i2] at hx4
    refine sat_zg (by first | omega | grind | grind [wr32]) (fun g_3 => ?_)
    have ⟨r_4a, r_4b⟩ : -2147483648 ≤ I0 (o0 + 1) x4.toNat ∧ I0 (o0 + 1) x4.toNat < 2147483648 := hRI0.1 (o0 + 1) x4.toNat
    try have r_4many := gx_many hRI0 x4.toNat (by omega) (by omega)
    try have r_4seen := gx_seen hRI0 x4.toNat (by omega) (by omega)
    try have r_4part := gx_part hRI0 x4.toNat (by omega) (by omega)
    try have r_4rows := gx_rows hRI0 x4.toNat (by omega) (by omega) (by omega)
    refine sat_ite (fun q_5 => ?_) (fun q_5 => ?_)
    · exact sat_zr ⟨(lit_in rfl), hRI0, trivial⟩
    · refine sat_zb (ok_X_best fu o0 0 I0 hfu hRI0 (lit_in rfl)) (fun y5 I6 c_6 ⟨⟨ay5, by5⟩, hRI6, pI6⟩ => ?_)
      have fI6 : ∀ q j, ¬ (q = o0 + 16 ∨ q = o0 + 17 ∨ (q = o0 ∧ j = 40)) → I6 q j = I0 q j := fc_X_best (fun q j => q = o0 + 16 ∨ q = o0 + 17 ∨ (q = o0 ∧ j = 40)) fu o0 0 I0 (fun _ => by simp) (fun _ => by simp) (by simp) c_6
      refine sat_zl (wr32_in _) (fun x8 hx8 ax8 bx8 => ?_)
      try simp (disch := omega) only [wr32_i2, wdiv_i2, wrem_i2] at hx8
      have h68 : I6 (o0 + 1) x8.toNat = I0 (o0 + 1) x4.toNat := by rw [show x8 = x4 by omega]; exact fI6 _ _ (by omega)
      have hsn := gx_seen hRI0 x4.toNat (by omega) (by omega)
      refine sat_zg (by first | omega | grind | grind [wr32]) (fun g_7 => ?_)
      refine sat_zg (by first | omega | grind | grind [wr32]) (fun g_8 => ?_)
      have ⟨r_9a, r_9b⟩ : -2147483648 ≤ I6 (o0 + 1) x8.toNat ∧ I6 (o0 + 1) x8.toNat < 2147483648 := hRI6.1 (o0 + 1) x8.toNat
      try have r_9many := gx_many hRI6 x8.toNat (by omega) (by omega)
      try have r_9seen := gx_seen hRI6 x8.toNat (by omega) (by omega)
      try have r_9part := gx_part hRI6 x8.toNat (by omega) (by omega)
      try have r_9rows := gx_rows hRI6 x8.toNat (by omega) (by omega) (by omega)
      refine sat_zwX1 hRI6 (wr32_in _) (cw_10 (by rw [h68, wr32_i2 (by omega) (by omega)]; omega)) (fun I9 eI9 hRI9 => ?_)
      refine sat_zb (ok_X_best fu o0 0 I9 hfu hRI9 (lit_in rfl)) (fun y10 I11 c_10 ⟨⟨ay10, by10⟩, hRI11, pI11⟩ => ?_)
      have fI11 : ∀ q j, ¬ (q = o0 + 16 ∨ q = o0 + 17 ∨ (q = o0 ∧ j = 40)) → I11 q j = I9 q j := fc_X_best (fun q j => q = o0 + 16 ∨ q = o0 + 17 ∨ (q = o0 ∧ j = 40)) fu o0 0 I9 (fun _ => by simp) (fun _ => by simp) (by simp) c_10
      refine sat_zl (wr32_in _) (fun x13 hx13 ax13 bx13 => ?_)
      try simp (disch := omega) only [wr32_i2, wdiv_i2, wrem_i2] at hx13
      have h1113 : I11 (o0 + 1) x13.toNat = I0 (o0 + 1) x4.toNat + 1 := by rw [show x13 = x8 by omega, fI11 _ _ (by omega), eI9, if_pos ⟨rfl, rfl⟩, h68]; exact wr32_i2 (by omega) (by omega)
      refine sat_zg (by first | omega | grind | grind [wr32]) (fun g_11 => ?_)
      refine sat_zg (by first | omega | grind | grind [wr32]) (fun g_12 => ?_)
      have ⟨r_13a, r_13b⟩ : -2147483648 ≤ I11 (o0 + 1) x13.toNat ∧ I11 (o0 + 1) x13.toNat < 2147483648 := hRI11.1 (o0 + 1) x13.toNat
      try have r_13many := gx_many hRI11 x13.toNat (by omega) (by omega)
      try have r_13seen := gx_seen hRI11 x13.toNat (by omega) (by omega)
      try have r_13part := gx_part hRI11 x13.toNat (by omega) (by omega)
      try have r_13rows := gx_rows hRI11 x13.toNat (by omega) (by omega) (by omega)
      refine sat_zwX1 hRI11 (wr32_in _) (cw_10 (by rw [h1113, wr32_i2 (by omega) (by omega)]; omega)) (fun I14 eI14 hRI14 => ?_)
      exact sat_zr ⟨(wr32_in _), hRI14, trivial⟩
theorem ok_X_heap_27 {Ib : IMem} (fu : Nat) (k_63 : Int → IMem → Res) (o0 : Nat) (p1 : Int) (p2 : Int) (hfu : 5000000000 < fu) (qp1 : inr p1) (qp2 : inr p2) (hp : 1 ≤ p1 ∧ p1 ≤ 8 ∧ 0 ≤ p2 ∧ p2 ≤ 9) {Q_ : Int → IMem → Prop} (hk_63 : ∀ (z0 : Int) (I9 : IMem), inr z0 → GX o0 I9 → (I9 = Ib ∧ (z0 = p2 + hsum Ib (o0 + 1) - Ib (o0 + 1) (60 + p1).toNat)) → sat (k_63 z0 I9) Q_) (hret : ∀ v I, inr v → GX o0 I → (I = Ib ∧ (False)) → sat (zr v I) Q_) : ∀ (m : Nat) (w3 : Int) (w4 : Int) (I0 : IMem), inr w3 → inr w4 → GX o0 I0 → (I0 = Ib ∧ (1 ≤ w4 ∧ w4 ≤ 9 ∧ (p1 < w4 → w3 = p2 + ps I0 (o0 + 1) (w4 - 1).toNat - I0 (o0 + 1) (60 + p1).toNat) ∧ (w4 ≤ p1 → w3 = p2 + ps I0 (o0 + 1) (w4 - 1).toNat))) → (9 - w4).toNat < m → sat (f_X_heap_27 fu k_63 o0 p1 p2 m w3 w4 I0) Q_ := by
  intro m
  induction m with
  | zero => intro w3 w4 I0 _ _ _ _ h0; exact absurd h0 (Nat.not_lt_zero _)
  | succ m hR_ =>
    intro w3 w4 I0 ⟨aw3, bw3⟩ ⟨aw4, bw4⟩ hRI0 hinv hmeas
    have einv := hinv.1; replace hinv := hinv.2; subst einv
    show sat (fb_X_heap_27 fu k_63 o0 p1 p2 (f_X_heap_27 fu k_63 o0 p1 p2 m) w3 w4 I0) Q_
    unfold fb_X_heap_27
    obtain ⟨ap1, bp1⟩ := qp1
    obtain ⟨ap2, bp2⟩ := qp2
    have hpp := hp_nn hRI0 (p1 - 1).toNat (by omega)
    rw [show 61 + (p1 - 1).toNat = (60 + p1).toNat by omega] at hpp
    have hpb := ps_b hRI0 (p1 - 1).toNat (w4 - 1).toNat (by omega)
    rw [show 61 + (p1 - 1).toNat = (60 + p1).toNat by omega] at hpb
    have hpc := ps_b hRI0 (w4 - 1).toNat 8 (by omega)
    rw [show 61 + (w4 - 1).toNat = (60 + w4).toNat by omega] at hpc
    have hpn : w4 ≤ 8 → 0 ≤ I0 (o0 + 1) (60 + w4).toNat := fun q => by have h := hp_nn hRI0 (w4 - 1).toNat (by omega); rw [show 61 + (w4 - 1).toNat = (60 + w4).toNat by omega] at h; exact h
    have hpe : w4 = p1 → I0 (o0 + 1) (60 + w4).toNat = I0 (o0 + 1) (60 + p1).toNat := fun q => by rw [q]
    have hps := ps_s I0 (o0 + 1) w4 hinv.1
    refine sat_ite (fun q_1 => ?_) (fun q_1 => ?_)
    · exact hk_63 w3 I0 ⟨aw3, bw3⟩ hRI0 ⟨rfl, (by have h := hinv.2.2.1 (by omega); rw [show (w4 - 1).toNat = 8 by omega, ps_8] at h; exact h)⟩
    · refine sat_zj (fun k7 ek7 => ?_)
      have hk7 : ∀ (x9 : Int) (I8 : IMem), inr x9 → GX o0 I8 → (I8 = I0 ∧ ((w4 = p1 → x9 = 0) ∧ (w4 ≠ p1 → x9 = I0 (o0 + 1) (60 + w4).toNat))) → sat (k7 x9 I8) Q_ := by
        intro x9 I8 ⟨ax9, bx9⟩ hRI8 jk7
        subst ek7
        have ejk7 := jk7.1.symm; replace jk7 := jk7.2; subst ejk7
        have hb3 : 0 ≤ w3 ∧ w3 ≤ 21 := by by_cases q : p1 < w4; (have h := hinv.2.2.1 q; have h2 := hpb.2.2.1 (by omega); omega); (have h := hinv.2.2.2 (by omega); omega)
        have hb9 : 0 ≤ x9 ∧ x9 ≤ 12 := by by_cases q : w4 = p1; (have h := jk7.1 q; omega); (have h := jk7.2 q; have h2 := hpc.2.2.1 (by omega); have h3 := hpn (by omega); omega)
        refine sat_zl (wr32_in _) (fun x10 hx10 ax10 bx10 => ?_)
        try simp (disch := omega) only [wr32_i2, wdiv_i2, wrem_i2] at hx10
        refine sat_zl (wr32_in _) (fun x11 hx11 ax11 bx11 => ?_)
        try simp (disch := omega) only [wr32_i2, wdiv_i2, wrem_i2] at hx11
        exact hR_ x10 x11 I0 ⟨ax10, bx10⟩ ⟨ax11, bx11⟩ hRI0 ⟨rfl, ⟨by omega, by omega, (by intro q; rw [show (x11 - 1).toNat = (w4 + 1 - 1).toNat by omega, hps]; by_cases q2 : w4 = p1; (have h := jk7.1 q2; have h2 := hinv.2.2.2 (by omega); have h3 := hpe q2; omega); (have h := jk7.2 q2; have h2 := hinv.2.2.1 (by omega); omega)), (by intro q; rw [show (x11 - 1).toNat = (w4 + 1 - 1).toNat by omega, hps]; have h := jk7.2 (by omega); have h2 := hinv.2.2.2 (by omega); omega)⟩⟩ (by first | omega | (simp (disch := omega) only [wr32_i2, wdiv_i2, wrem_i2]; omega) | grind | grind [wr32])
      clear ek7
      refine sat_ite (fun q_2 => ?_) (fun q_2 => ?_)
      · exact hk7 0 I0 (lit_in rfl) hRI0 ⟨rfl, (by first | exact ⟨fun _ => rfl, fun q => absurd (by assumption) q⟩ | exact ⟨fun q => absurd q (by assumption), fun _ => by rw [show x12 = 60 + w4 by omega]⟩)⟩
      · refine sat_zl (wr32_in _) (fun x12 hx12 ax12 bx12 => ?_)
        try simp (disch := omega) only [wr32_i2, wdiv_i2, wrem_i2] at hx12
        refine sat_zg (by first | omega | grind | grind [wr32]) (fun g_3 => ?_)
        have ⟨r_4a, r_4b⟩ : -2147483648 ≤ I0 (o0 + 1) x12.toNat ∧ I0 (o0 + 1) x12.toNat < 2147483648 := hRI0.1 (o0 + 1) x12.toNat
        try have r_4many := gx_many hRI0 x12.toNat (by omega) (by omega)
        try have r_4seen := gx_seen hRI0 x12.toNat (by omega) (by omega)
        try have r_4part := gx_part hRI0 x12.toNat (by omega) (by omega)
        try have r_4rows := gx_rows hRI0 x12.toNat (by omega) (by omega) (by omega)
        exact hk7 (I0 (o0 + 1) x12.toNat) I0 (hRI0.1 (o0 + 1) x12.toNat) hRI0 ⟨rfl, (by first | exact ⟨fun _ => rfl, fun q => absurd (by assumption) q⟩ | exact ⟨fun q => absurd q (by assumption), fun _ => by rw [show x12 = 60 + w4 by omega]⟩)⟩
theorem ok_X_heap (fu : Nat) (o0 : Nat) (a1 : Int) (a2 : Int) (I0 : IMem) (hfu : 5000000000 < fu) (hRI0 : GX o0 I0) (qa1 : inr a1) (qa2 : inr a2) : sat (f_X_heap fu o0 a1 a2 I0) (fun v I => inr v ∧ GX o0 I ∧ (True)) := by
  unfold f_X_heap
  obtain ⟨aa1, ba1⟩ := qa1
  obtain ⟨aa2, ba2⟩ := qa2
  refine sat_zb (ok_X_isIn fu a1 1 8 I0 hfu hRI0.1 ⟨aa1, ba1⟩ (lit_in rfl) (lit_in rfl)) (fun y1 I2 c_1 ⟨⟨ay1, by1⟩, _, pI2⟩ => ?_)
  have eI2 := pI2.1.symm; replace pI2 := pI2.2; subst eI2
  refine sat_ite (fun q_2 => ?_) (fun q_2 => ?_)
  · exact sat_zr ⟨(lit_in rfl), hRI0, trivial⟩
  · refine sat_zb (ok_X_isIn fu a2 0 9 I0 hfu hRI0.1 ⟨aa2, ba2⟩ (lit_in rfl) (lit_in rfl)) (fun y4 I5 c_3 ⟨⟨ay4, by4⟩, _, pI5⟩ => ?_)
    have eI5 := pI5.1.symm; replace pI5 := pI5.2; subst eI5
    refine sat_ite (fun q_4 => ?_) (fun q_4 => ?_)
    · exact sat_zr ⟨(lit_in rfl), hRI0, trivial⟩
    · refine ok_X_heap_27 (Ib := I0) fu _ o0 a1 a2 hfu ⟨aa1, ba1⟩ ⟨aa2, ba2⟩ (by first | omega | (simp (disch := omega) only [wr32_i2, wdiv_i2, wrem_i2]; omega) | grind | grind [wr32]) ?_ (fun v I h1 h2 h3 => sat_zr ⟨h1, h2, (by first | exact h3.elim | exact h3.2.elim)⟩) fu a2 1 I0 ⟨aa2, ba2⟩ (lit_in rfl) hRI0 ⟨rfl, ⟨by omega, by omega, by intro q; omega, by intro q; rw [show ((1 : Int) - 1).toNat = 0 by decide]; show a2 = a2 + 0; omega⟩⟩ (by first | omega | (simp (disch := omega) only [wr32_i2, wdiv_i2, wrem_i2]; omega) | grind | grind [wr32])
      · intro x14 I13 ⟨ax14, bx14⟩ hRI13 xI13
        have exI13 := xI13.1.symm; replace xI13 := xI13.2; subst exI13
        refine sat_ite (fun q_5 => ?_) (fun q_5 => ?_)
        · exact sat_zr ⟨(lit_in rfl), hRI0, trivial⟩
        · refine sat_zl (wr32_in _) (fun x16 hx16 ax16 bx16 => ?_)
          try simp (disch := omega) only [wr32_i2, wdiv_i2, wrem_i2] at hx16
          refine sat_zg (by first | omega | grind | grind [wr32]) (fun g_6 => ?_)
          refine sat_zwX1 hRI0 ⟨aa2, ba2⟩ (cw_61 ⟨by omega, by omega, by omega, by rw [show x16.toNat = (60 + a1).toNat by omega]; omega⟩) (fun I15 eI15 hRI15 => ?_)
          exact sat_zr ⟨(lit_in rfl), hRI15, trivial⟩
theorem ok_X_greatest_3 {Ib : IMem} (fu : Nat) (o0 : Nat) (hfu : 5000000000 < fu) {Q_ : Int → IMem → Prop} (hret : ∀ v I, inr v → GX o0 I → (I = Ib ∧ (0 ≤ v ∧ v ≤ 8 ∧ (v ≠ 0 → 0 < Ib (o0 + 19) v.toNat))) → sat (zr v I) Q_) : ∀ (m : Nat) (w1 : Int) (I0 : IMem), inr w1 → GX o0 I0 → (I0 = Ib ∧ (0 ≤ w1 ∧ w1 ≤ 8)) → (w1).toNat < m → sat (f_X_greatest_3 fu o0 m w1 I0) Q_ := by
  intro m
  induction m with
  | zero => intro w1 I0 _ _ _ h0; exact absurd h0 (Nat.not_lt_zero _)
  | succ m hR_ =>
    intro w1 I0 ⟨aw1, bw1⟩ hRI0 hinv hmeas
    have einv := hinv.1; replace hinv := hinv.2; subst einv
    show sat (fb_X_greatest_3 fu o0 (f_X_greatest_3 fu o0 m) w1 I0) Q_
    unfold fb_X_greatest_3
    refine sat_ite (fun q_1 => ?_) (fun q_1 => ?_)
    · refine sat_zg (by first | omega | grind | grind [wr32]) (fun g_2 => ?_)
      have ⟨r_3a, r_3b⟩ : -2147483648 ≤ I0 (o0 + 19) w1.toNat ∧ I0 (o0 + 19) w1.toNat < 2147483648 := hRI0.1 (o0 + 19) w1.toNat
      refine sat_ite (fun q_4 => ?_) (fun q_4 => ?_)
      · exact hret _ _ ⟨aw1, bw1⟩ hRI0 ⟨rfl, (by first | omega | (simp (disch := omega) only [wr32_i2, wdiv_i2, wrem_i2]; omega) | grind | grind [wr32])⟩
      · refine sat_zl (wr32_in _) (fun x1 hx1 ax1 bx1 => ?_)
        try simp (disch := omega) only [wr32_i2, wdiv_i2, wrem_i2] at hx1
        exact hR_ x1 I0 ⟨ax1, bx1⟩ hRI0 ⟨rfl, (by first | omega | (simp (disch := omega) only [wr32_i2, wdiv_i2, wrem_i2]; omega) | grind | grind [wr32])⟩ (by first | omega | (simp (disch := omega) only [wr32_i2, wdiv_i2, wrem_i2]; omega) | grind | grind [wr32])
    · exact hret _ _ (lit_in rfl) hRI0 ⟨rfl, (by first | omega | (simp (disch := omega) only [wr32_i2, wdiv_i2, wrem_i2]; omega) | grind | grind [wr32])⟩
theorem ok_X_greatest (fu : Nat) (o0 : Nat) (I0 : IMem) (hfu : 5000000000 < fu) (hRI0 : GX o0 I0) : sat (f_X_greatest fu o0 I0) (fun v I => inr v ∧ GX o0 I ∧ (I = I0 ∧ (0 ≤ v ∧ v ≤ 8 ∧ (v ≠ 0 → 0 < I0 (o0 + 19) v.toNat)))) := by
  unfold f_X_greatest
  refine ok_X_greatest_3 (Ib := I0) fu o0 hfu (fun v I h1 h2 h3 => sat_zr ⟨h1, h2, ⟨h3.1, (by have h4 := h3.2; first | exact trivial | exact h4 | omega | grind)⟩⟩) fu 8 I0 (lit_in rfl) hRI0 ⟨rfl, (by first | omega | (simp (disch := omega) only [wr32_i2, wdiv_i2, wrem_i2]; omega) | grind | grind [wr32])⟩ (by first | omega | (simp (disch := omega) only [wr32_i2, wdiv_i2, wrem_i2]; omega) | grind | grind [wr32])
theorem ok_X_number0_4 {Ib : IMem} (fu : Nat) (o0 : Nat) (hfu : 5000000000 < fu) (hnw : NQ o0 Ib) {Q_ : Int → IMem → Prop} (hret : ∀ v I, inr v → GX o0 I → (I = Ib ∧ (0 ≤ v ∧ v < 4096)) → sat (zr v I) Q_) : ∀ (m : Nat) (w1 : Int) (w2 : Int) (I0 : IMem), inr w1 → inr w2 → GX o0 I0 → (I0 = Ib ∧ (1 ≤ w2 ∧ w2 ≤ 9 ∧ w1 = nr (I0 (o0 + 20)) (I0 (o0 + 19)) (w2 - 1).toNat)) → (9 - w2).toNat < m → sat (f_X_number0_4 fu o0 m w1 w2 I0) Q_ := by
  intro m
  induction m with
  | zero => intro w1 w2 I0 _ _ _ _ h0; exact absurd h0 (Nat.not_lt_zero _)
  | succ m hR_ =>
    intro w1 w2 I0 ⟨aw1, bw1⟩ ⟨aw2, bw2⟩ hRI0 hinv hmeas
    have einv := hinv.1; replace hinv := hinv.2; subst einv
    show sat (fb_X_number0_4 fu o0 (f_X_number0_4 fu o0 m) w1 w2 I0) Q_
    unfold fb_X_number0_4
    have hnb := nw_step hnw w2 (by omega) (by omega)
    refine sat_ite (fun q_1 => ?_) (fun q_1 => ?_)
    · exact hret _ _ ⟨aw1, bw1⟩ hRI0 ⟨rfl, (by first | omega | (simp (disch := omega) only [wr32_i2, wdiv_i2, wrem_i2]; omega) | grind | grind [wr32])⟩
    · refine sat_zg (by first | omega | grind | grind [wr32]) (fun g_2 => ?_)
      refine sat_zg (by first | omega | grind | grind [wr32]) (fun g_3 => ?_)
      have ⟨r_4a, r_4b⟩ : -2147483648 ≤ I0 (o0 + 20) w2.toNat ∧ I0 (o0 + 20) w2.toNat < 2147483648 := hRI0.1 (o0 + 20) w2.toNat
      have ⟨r_5a, r_5b⟩ : -2147483648 ≤ I0 (o0 + 19) w2.toNat ∧ I0 (o0 + 19) w2.toNat < 2147483648 := hRI0.1 (o0 + 19) w2.toNat
      refine sat_zl (wr32_in _) (fun x1 hx1 ax1 bx1 => ?_)
      try simp (disch := omega) only [wr32_i2, wdiv_i2, wrem_i2] at hx1
      refine sat_zl (wr32_in _) (fun x2 hx2 ax2 bx2 => ?_)
      try simp (disch := omega) only [wr32_i2, wdiv_i2, wrem_i2] at hx2
      exact hR_ x1 x2 I0 ⟨ax1, bx1⟩ ⟨ax2, bx2⟩ hRI0 ⟨rfl, ⟨by omega, by omega, by rw [show (x2 - 1).toNat = (w2 + 1 - 1).toNat by omega, (hnb.2.2 (by omega)).1]; omega⟩⟩ (by first | omega | (simp (disch := omega) only [wr32_i2, wdiv_i2, wrem_i2]; omega) | grind | grind [wr32])
theorem ok_X_number0 (fu : Nat) (o0 : Nat) (I0 : IMem) (hfu : 5000000000 < fu) (hRI0 : GX o0 I0) (hnw : NQ o0 I0) : sat (f_X_number0 fu o0 I0) (fun v I => inr v ∧ GX o0 I ∧ (I = I0 ∧ (0 ≤ v ∧ v < 4096))) := by
  unfold f_X_number0
  refine ok_X_number0_4 (Ib := I0) fu o0 hfu (by first | omega | (simp (disch := omega) only [wr32_i2, wdiv_i2, wrem_i2]; omega) | grind | grind [wr32]) (fun v I h1 h2 h3 => sat_zr ⟨h1, h2, ⟨h3.1, (by have h4 := h3.2; first | exact trivial | exact h4 | omega | grind)⟩⟩) fu 0 1 I0 (lit_in rfl) (lit_in rfl) hRI0 ⟨rfl, ⟨by omega, by omega, rfl⟩⟩ (by first | omega | (simp (disch := omega) only [wr32_i2, wdiv_i2, wrem_i2]; omega) | grind | grind [wr32])
