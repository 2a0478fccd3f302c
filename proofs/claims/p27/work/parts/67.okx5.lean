/-! safety of the reference -/
theorem ok_X_movesUp (fu : Nat) (o0 : Nat) (a1 : Int) (I0 : IMem) (hfu : 5000000000 < fu) (hRI0 : GX o0 I0) (qa1 : inr a1) (h0 : 0 ≤ a1 ∧ a1 ≤ 5) (hst : ST o0 a1 I0) : sat (f_X_movesUp fu o0 a1 I0) (fun v I => inr v ∧ GX o0 I ∧ (∀ j : Nat, ((j : Int) < 140 + 240 * a1 ∨ 140 + 240 * (a1 + 1) ≤ (j : Int)) → (j : Int) ≠ 130 + a1 → I (o0 + 1) j = I0 (o0 + 1) j)) := by
  unfold f_X_movesUp
  obtain ⟨aa1, ba1⟩ := qa1
  refine sat_zl (wr32_in _) (fun x1 hx1 ax1 bx1 => ?_)
  try simp (disch := omega) only [wr32_i2, wdiv_i2, wrem_i2] at hx1
  refine sat_zg (by first | omega | grind | grind [wr32]) (fun g_1 => ?_)
  have ⟨r_2a, r_2b⟩ : -2147483648 ≤ I0 (o0 + 1) x1.toNat ∧ I0 (o0 + 1) x1.toNat < 2147483648 := hRI0.1 (o0 + 1) x1.toNat
  try have r_2many := gx_many hRI0 x1.toNat (by omega) (by omega)
  try have r_2seen := gx_seen hRI0 x1.toNat (by omega) (by omega)
  try have r_2part := gx_part hRI0 x1.toNat (by omega) (by omega)
  try have r_2rows := gx_rows hRI0 x1.toNat (by omega) (by omega) (by omega)
  refine sat_zl (hRI0.1 (o0 + 1) x1.toNat) (fun x2 hx2 ax2 bx2 => ?_)
  refine ok_X_movesUp_16 (Ib := I0) fu _ o0 a1 x2 hfu ⟨aa1, ba1⟩ ⟨ax2, bx2⟩ (by first | omega | (simp (disch := omega) only [wr32_i2, wdiv_i2, wrem_i2]; omega) | grind | grind [wr32]) ?_ (fun v I h1 h2 h3 => sat_zr ⟨h1, h2, (by first | exact h3.elim | exact h3.2.elim)⟩) fu 0 0 I0 (lit_in rfl) (lit_in rfl) hRI0 ⟨rfl, (by first | omega | (simp (disch := omega) only [wr32_i2, wdiv_i2, wrem_i2]; omega) | grind | grind [wr32])⟩ (by first | omega | (simp (disch := omega) only [wr32_i2, wdiv_i2, wrem_i2]; omega) | grind | grind [wr32])
  · intro x10 I9 ⟨ax10, bx10⟩ hRI9 xI9
    have exI9 := xI9.1.symm; replace xI9 := xI9.2; subst exI9
    refine ok_X_movesUp_57 (Ib := I0) fu _ o0 a1 x2 hfu ⟨aa1, ba1⟩ ⟨ax2, bx2⟩ (by first | omega | (simp (disch := omega) only [wr32_i2, wdiv_i2, wrem_i2]; omega) | grind | grind [wr32]) (by first | omega | (simp (disch := omega) only [wr32_i2, wdiv_i2, wrem_i2]; omega) | grind | grind [wr32]) ?_ (fun v I h1 h2 h3 => sat_zr ⟨h1, h2, (by first | exact h3.elim | exact h3.2.elim)⟩) fu x10 0 0 I0 ⟨ax10, bx10⟩ (lit_in rfl) (lit_in rfl) hRI0 ⟨(fun _ _ _ => rfl), (by first | omega | (simp (disch := omega) only [wr32_i2, wdiv_i2, wrem_i2]; omega) | grind | grind [wr32])⟩ (by first | omega | (simp (disch := omega) only [wr32_i2, wdiv_i2, wrem_i2]; omega) | grind | grind [wr32])
    · intro x49 I48 ⟨ax49, bx49⟩ hRI48 xI48
      have fI48 := xI48.1; replace xI48 := xI48.2
      refine sat_zl (wr32_in _) (fun x51 hx51 ax51 bx51 => ?_)
      try simp (disch := omega) only [wr32_i2, wdiv_i2, wrem_i2] at hx51
      refine sat_zg (by first | omega | grind | grind [wr32]) (fun g_3 => ?_)
      refine sat_zwX1 hRI48 ⟨ax49, bx49⟩ (cw_130 ⟨by omega, by omega, by omega, by omega, Or.inl (by grind)⟩) (fun I50 eI50 hRI50 => ?_)
      exact sat_zr ⟨(lit_in rfl), hRI50, (by first | omega | (simp (disch := omega) only [wr32_i2, wdiv_i2, wrem_i2]; omega) | grind | grind [wr32])⟩
theorem ok_X_goesOff_61 {Ib : IMem} (fu : Nat) (k_203 : IMem → Res) (o0 : Nat) (p1 : Int) (hfu : 5000000000 < fu) (qp1 : inr p1) (hfs : FS o0 Ib) {Q_ : Int → IMem → Prop} (hk_203 : ∀ (I9 : IMem), GX o0 I9 → ((∀ q j, ¬ (q = o0 + 1) → I9 q j = Ib q j) ∧ (∀ j : Nat, (j < 80 ∨ 130 ≤ j) → I9 (o0 + 1) j = Ib (o0 + 1) j)) → sat (k_203 I9) Q_) (hret : ∀ v I, inr v → GX o0 I → ((∀ q j, ¬ (q = o0 + 1) → I q j = Ib q j) ∧ (False)) → sat (zr v I) Q_) : ∀ (m : Nat) (w2 : Int) (I0 : IMem), inr w2 → GX o0 I0 → ((∀ q j, ¬ (q = o0 + 1) → I0 q j = Ib q j) ∧ (0 ≤ w2 ∧ ∀ j : Nat, (j < 80 ∨ 130 ≤ j) → I0 (o0 + 1) j = Ib (o0 + 1) j)) → (8 - w2).toNat < m → sat (f_X_goesOff_61 fu k_203 o0 p1 m w2 I0) Q_ := by
  intro m
  induction m with
  | zero => intro w2 I0 _ _ _ h0; exact absurd h0 (Nat.not_lt_zero _)
  | succ m hR_ =>
    intro w2 I0 ⟨aw2, bw2⟩ hRI0 hinv hmeas
    have fI0 := hinv.1; replace hinv := hinv.2
    show sat (fb_X_goesOff_61 fu k_203 o0 p1 (f_X_goesOff_61 fu k_203 o0 p1 m) w2 I0) Q_
    unfold fb_X_goesOff_61
    obtain ⟨ap1, bp1⟩ := qp1
    have hf9 : ∀ k, I0 (o0 + 9) k = Ib (o0 + 9) k := fun k => fI0 _ _ (by omega)
    have hf11 : ∀ k, I0 (o0 + 11) k = Ib (o0 + 11) k := fun k => fI0 _ _ (by omega)
    have hf31 : I0 o0 31 = Ib o0 31 := fI0 _ _ (by omega)
    have hft := hfs.1
    have hfo : w2 < I0 o0 31 → 0 ≤ I0 (o0 + 11) w2.toNat ∧ I0 (o0 + 11) w2.toNat < 240 := fun q => by rw [hf11]; exact hfs.2.1 w2.toNat (by omega)
    have ⟨r_1a, r_1b⟩ : -2147483648 ≤ I0 o0 31 ∧ I0 o0 31 < 2147483648 := hRI0.1 o0 31
    refine sat_ite (fun q_2 => ?_) (fun q_2 => ?_)
    · refine sat_zg (by first | omega | grind | grind [wr32]) (fun g_3 => ?_)
      have ⟨r_4a, r_4b⟩ : -2147483648 ≤ I0 (o0 + 11) w2.toNat ∧ I0 (o0 + 11) w2.toNat < 2147483648 := hRI0.1 (o0 + 11) w2.toNat
      have hfo1 := hfo (by omega)
      refine sat_zl (wdiv_in _ _) (fun x6 hx6 ax6 bx6 => ?_)
      try simp (disch := omega) only [wr32_i2, wdiv_i2, wrem_i2] at hx6
      refine sat_zg (by first | omega | grind | grind [wr32]) (fun g_5 => ?_)
      refine sat_zl (wrem_in _ _) (fun x7 hx7 ax7 bx7 => ?_)
      try simp (disch := omega) only [wr32_i2, wdiv_i2, wrem_i2] at hx7
      refine sat_zg (by first | omega | grind | grind [wr32]) (fun g_6 => ?_)
      refine sat_zl (hRI0.1 (o0 + 11) w2.toNat) (fun x8 hx8 ax8 bx8 => ?_)
      refine sat_zg (by first | omega | grind | grind [wr32]) (fun g_7 => ?_)
      have ⟨r_8a, r_8b⟩ : -2147483648 ≤ I0 (o0 + 9) x8.toNat ∧ I0 (o0 + 9) x8.toNat < 2147483648 := hRI0.1 (o0 + 9) x8.toNat
      refine sat_zl (hRI0.1 (o0 + 9) x8.toNat) (fun x9 hx9 ax9 bx9 => ?_)
      have hfz := hfs.2.2.2 x8.toNat (by omega)
      rw [← hf9 x8.toNat, ← hx9] at hfz
      refine sat_zb (ok_X_of fu o0 x6 x7 4 I0 hfu hRI0 ⟨ax6, bx6⟩ ⟨ax7, bx7⟩ (lit_in rfl) (by first | omega | (simp (disch := omega) only [wr32_i2, wdiv_i2, wrem_i2]; omega) | grind | grind [wr32])) (fun y10 I11 c_9 ⟨⟨ay10, by10⟩, _, pI11⟩ => ?_)
      have eI11 := pI11.1.symm; replace pI11 := pI11.2; subst eI11
      refine sat_zb (ok_X_of fu o0 x6 x7 0 I0 hfu hRI0 ⟨ax6, bx6⟩ ⟨ax7, bx7⟩ (lit_in rfl) (by first | omega | (simp (disch := omega) only [wr32_i2, wdiv_i2, wrem_i2]; omega) | grind | grind [wr32])) (fun y13 I14 c_10 ⟨⟨ay13, by13⟩, _, pI14⟩ => ?_)
      have eI14 := pI14.1.symm; replace pI14 := pI14.2; subst eI14
      refine sat_zl (wr32_in _) (fun x17 hx17 ax17 bx17 => ?_)
      try simp (disch := omega) only [wr32_i2, wdiv_i2, wrem_i2] at hx17
      refine sat_zg (by first | omega | grind | grind [wr32]) (fun g_11 => ?_)
      refine sat_zwX1 hRI0 ⟨ay13, by13⟩ (cw_111 (by first | omega | (simp (disch := omega) only [wr32_i2, wdiv_i2, wrem_i2]; omega) | grind)) (fun I16 eI16 hRI16 => ?_)
      refine sat_zl (wr32_in _) (fun x19 hx19 ax19 bx19 => ?_)
      try simp (disch := omega) only [wr32_i2, wdiv_i2, wrem_i2] at hx19
      refine sat_zg (by first | omega | grind | grind [wr32]) (fun g_12 => ?_)
      refine sat_zwX1 hRI16 ⟨ax9, bx9⟩ (cw_111 (by first | omega | (simp (disch := omega) only [wr32_i2, wdiv_i2, wrem_i2]; omega) | grind)) (fun I18 eI18 hRI18 => ?_)
      refine sat_zl (wr32_in _) (fun x20 hx20 ax20 bx20 => ?_)
      try simp (disch := omega) only [wr32_i2, wdiv_i2, wrem_i2] at hx20
      refine sat_zg (by first | omega | grind | grind [wr32]) (fun g_13 => ?_)
      refine sat_zg (by first | omega | grind | grind [wr32]) (fun g_14 => ?_)
      have ⟨r_15a, r_15b⟩ : -2147483648 ≤ I18 (o0 + 1) x20.toNat ∧ I18 (o0 + 1) x20.toNat < 2147483648 := hRI18.1 (o0 + 1) x20.toNat
      try have r_15many := gx_many hRI18 x20.toNat (by omega) (by omega)
      try have r_15seen := gx_seen hRI18 x20.toNat (by omega) (by omega)
      try have r_15part := gx_part hRI18 x20.toNat (by omega) (by omega)
      try have r_15rows := gx_rows hRI18 x20.toNat (by omega) (by omega) (by omega)
      refine sat_zwX1 hRI18 (wr32_in _) (cw_71 (by first | omega | (simp (disch := omega) only [wr32_i2, wdiv_i2, wrem_i2]; omega) | grind)) (fun I21 eI21 hRI21 => ?_)
      refine sat_zl (wr32_in _) (fun x22 hx22 ax22 bx22 => ?_)
      try simp (disch := omega) only [wr32_i2, wdiv_i2, wrem_i2] at hx22
      refine sat_zg (by first | omega | grind | grind [wr32]) (fun g_16 => ?_)
      refine sat_zg (by first | omega | grind | grind [wr32]) (fun g_17 => ?_)
      have ⟨r_18a, r_18b⟩ : -2147483648 ≤ I21 (o0 + 1) x22.toNat ∧ I21 (o0 + 1) x22.toNat < 2147483648 := hRI21.1 (o0 + 1) x22.toNat
      try have r_18many := gx_many hRI21 x22.toNat (by omega) (by omega)
      try have r_18seen := gx_seen hRI21 x22.toNat (by omega) (by omega)
      try have r_18part := gx_part hRI21 x22.toNat (by omega) (by omega)
      try have r_18rows := gx_rows hRI21 x22.toNat (by omega) (by omega) (by omega)
      refine sat_zwX1 hRI21 (wr32_in _) (cw_71 (by first | omega | (simp (disch := omega) only [wr32_i2, wdiv_i2, wrem_i2]; omega) | grind)) (fun I23 eI23 hRI23 => ?_)
      refine sat_zl (wr32_in _) (fun x24 hx24 ax24 bx24 => ?_)
      try simp (disch := omega) only [wr32_i2, wdiv_i2, wrem_i2] at hx24
      refine sat_zg (by first | omega | grind | grind [wr32]) (fun g_19 => ?_)
      refine sat_zj (fun k25 ek25 => ?_)
      have hk25 : ∀ (I26 : IMem), GX o0 I26 → ((∀ q j, ¬ (q = o0 + 1) → I26 q j = I23 q j) ∧ (∀ j : Nat, (j < 80 ∨ 130 ≤ j) → I26 (o0 + 1) j = I0 (o0 + 1) j)) → sat (k25 I26) Q_ := by
        intro I26  hRI26 jk25
        subst ek25
        have fI26 := jk25.1; replace jk25 := jk25.2
        refine sat_zl (wr32_in _) (fun x27 hx27 ax27 bx27 => ?_)
        try simp (disch := omega) only [wr32_i2, wdiv_i2, wrem_i2] at hx27
        exact hR_ x27 I26 ⟨ax27, bx27⟩ hRI26 ⟨(by intro q j hq; grind), ⟨by omega, fun j hj => by rw [jk25 j hj]; exact hinv.2 j hj⟩⟩ (by first | omega | (simp (disch := omega) only [wr32_i2, wdiv_i2, wrem_i2]; omega) | grind | grind [wr32])
      clear ek25
      have ⟨r_20a, r_20b⟩ : -2147483648 ≤ I23 (o0 + 1) x24.toNat ∧ I23 (o0 + 1) x24.toNat < 2147483648 := hRI23.1 (o0 + 1) x24.toNat
      try have r_20many := gx_many hRI23 x24.toNat (by omega) (by omega)
      try have r_20seen := gx_seen hRI23 x24.toNat (by omega) (by omega)
      try have r_20part := gx_part hRI23 x24.toNat (by omega) (by omega)
      try have r_20rows := gx_rows hRI23 x24.toNat (by omega) (by omega) (by omega)
      refine sat_ite (fun q_21 => ?_) (fun q_21 => ?_)
      · refine sat_zl (wr32_in _) (fun x29 hx29 ax29 bx29 => ?_)
        try simp (disch := omega) only [wr32_i2, wdiv_i2, wrem_i2] at hx29
        refine sat_zg (by first | omega | grind | grind [wr32]) (fun g_22 => ?_)
        refine sat_zwX1 hRI23 ⟨ay10, by10⟩ (cw_71 (by first | omega | (simp (disch := omega) only [wr32_i2, wdiv_i2, wrem_i2]; omega) | grind)) (fun I28 eI28 hRI28 => ?_)
        exact hk25 I28 hRI28 ⟨(by intro q j hq; grind), (by first | exact fun j hj => by rw [eI28, if_neg (by omega), eI23, if_neg (by omega), eI21, if_neg (by omega), eI18, if_neg (by omega), eI16, if_neg (by omega)] | exact fun j hj => by rw [eI23, if_neg (by omega), eI21, if_neg (by omega), eI18, if_neg (by omega), eI16, if_neg (by omega)])⟩
      · exact hk25 I23 hRI23 ⟨(by intro q j hq; grind), (by first | exact fun j hj => by rw [eI28, if_neg (by omega), eI23, if_neg (by omega), eI21, if_neg (by omega), eI18, if_neg (by omega), eI16, if_neg (by omega)] | exact fun j hj => by rw [eI23, if_neg (by omega), eI21, if_neg (by omega), eI18, if_neg (by omega), eI16, if_neg (by omega)])⟩
    · exact hk_203 I0 hRI0 ⟨(by intro q j hq; grind), hinv.2⟩
theorem ok_X_goesOff_215 {Ib : IMem} (fu : Nat) (k_258 : IMem → Res) (o0 : Nat) (p1 : Int) (p2 : Int) (hfu : 5000000000 < fu) (qp1 : inr p1) (qp2 : inr p2) (hfs : FS o0 Ib) (hp2 : 0 ≤ p2 ∧ p2 < Ib o0 32) {Q_ : Int → IMem → Prop} (hk_258 : ∀ (I9 : IMem), GX o0 I9 → ((∀ q j, ¬ (q = o0 + 14) → I9 q j = Ib q j) ∧ ((∀ j : Nat, (j : Int) < 6 * p2 → I9 (o0 + 14) j = Ib (o0 + 14) j) ∧ 1 ≤ I9 (o0 + 14) (6 * p2 + 1).toNat ∧ I9 (o0 + 14) (6 * p2 + 1).toNat ≤ 8)) → sat (k_258 I9) Q_) (hret : ∀ v I, inr v → GX o0 I → ((∀ q j, ¬ (q = o0 + 14) → I q j = Ib q j) ∧ (False)) → sat (zr v I) Q_) : ∀ (m : Nat) (w3 : Int) (I0 : IMem), inr w3 → GX o0 I0 → ((∀ q j, ¬ (q = o0 + 14) → I0 q j = Ib q j) ∧ (0 ≤ w3 ∧ w3 ≤ 6 ∧ (∀ j : Nat, (j : Int) < 6 * p2 → I0 (o0 + 14) j = Ib (o0 + 14) j) ∧ (2 ≤ w3 → 1 ≤ I0 (o0 + 14) (6 * p2 + 1).toNat ∧ I0 (o0 + 14) (6 * p2 + 1).toNat ≤ 8))) → (6 - w3).toNat < m → sat (f_X_goesOff_215 fu k_258 o0 p1 p2 m w3 I0) Q_ := by
  intro m
  induction m with
  | zero => intro w3 I0 _ _ _ h0; exact absurd h0 (Nat.not_lt_zero _)
  | succ m hR_ =>
    intro w3 I0 ⟨aw3, bw3⟩ hRI0 hinv hmeas
    have fI0 := hinv.1; replace hinv := hinv.2
    show sat (fb_X_goesOff_215 fu k_258 o0 p1 p2 (f_X_goesOff_215 fu k_258 o0 p1 p2 m) w3 I0) Q_
    unfold fb_X_goesOff_215
    obtain ⟨ap1, bp1⟩ := qp1
    obtain ⟨ap2, bp2⟩ := qp2
    have hf10 : ∀ k, I0 (o0 + 10) k = Ib (o0 + 10) k := fun k => fI0 _ _ (by omega)
    have hf1 : ∀ k, I0 (o0 + 1) k = Ib (o0 + 1) k := fun k => fI0 _ _ (by omega)
    have hft := hfs.1
    have hfo := hfs.2.2.1 p2.toNat (by omega)
    rw [← hf10, ← hf1] at hfo
    refine sat_ite (fun q_1 => ?_) (fun q_1 => ?_)
    · refine sat_zg (by first | omega | grind | grind [wr32]) (fun g_2 => ?_)
      have ⟨r_3a, r_3b⟩ : -2147483648 ≤ I0 (o0 + 10) p2.toNat ∧ I0 (o0 + 10) p2.toNat < 2147483648 := hRI0.1 (o0 + 10) p2.toNat
      refine sat_zl (wr32_in _) (fun x31 hx31 ax31 bx31 => ?_)
      try simp (disch := omega) only [wr32_i2, wdiv_i2, wrem_i2] at hx31
      have hr8 := gx_rows hRI0 (141 + 6 * (I0 (o0 + 10) p2.toNat).toNat) (by omega) (by omega) (by omega)
      have hs1 : w3 = 1 → 1 ≤ I0 (o0 + 1) x31.toNat ∧ I0 (o0 + 1) x31.toNat ≤ 8 := fun q => by rw [show x31.toNat = 141 + 6 * (I0 (o0 + 10) p2.toNat).toNat by omega]; exact ⟨hfo.2.2, hr8.2⟩
      refine sat_zg (by first | omega | grind | grind [wr32]) (fun g_4 => ?_)
      refine sat_zl (wr32_in _) (fun x33 hx33 ax33 bx33 => ?_)
      try simp (disch := omega) only [wr32_i2, wdiv_i2, wrem_i2] at hx33
      refine sat_zg (by first | omega | grind | grind [wr32]) (fun g_5 => ?_)
      have ⟨r_6a, r_6b⟩ : -2147483648 ≤ I0 (o0 + 1) x31.toNat ∧ I0 (o0 + 1) x31.toNat < 2147483648 := hRI0.1 (o0 + 1) x31.toNat
      try have r_6many := gx_many hRI0 x31.toNat (by omega) (by omega)
      try have r_6seen := gx_seen hRI0 x31.toNat (by omega) (by omega)
      try have r_6part := gx_part hRI0 x31.toNat (by omega) (by omega)
      try have r_6rows := gx_rows hRI0 x31.toNat (by omega) (by omega) (by omega)
      refine sat_zwXn (c := 14) hRI0 (hRI0.1 (o0 + 1) x31.toNat) (by decide) (Or.inl (by decide)) (fun I32 eI32 hRI32 => ?_)
      refine sat_zl (wr32_in _) (fun x34 hx34 ax34 bx34 => ?_)
      try simp (disch := omega) only [wr32_i2, wdiv_i2, wrem_i2] at hx34
      exact hR_ x34 I32 ⟨ax34, bx34⟩ hRI32 ⟨(by intro q j hq; grind), (by refine ⟨by omega, by omega, fun j hj => by rw [eI32, if_neg (by omega)]; exact hinv.2.2.1 j hj, fun h2 => ?_⟩; by_cases q3 : w3 = 1; (rw [eI32, if_pos ⟨rfl, by omega⟩]; exact hs1 q3); (rw [eI32, if_neg (by omega)]; exact hinv.2.2.2 (by omega)))⟩ (by first | omega | (simp (disch := omega) only [wr32_i2, wdiv_i2, wrem_i2]; omega) | grind | grind [wr32])
    · exact hk_258 I0 hRI0 ⟨(by intro q j hq; grind), (by first | omega | (simp (disch := omega) only [wr32_i2, wdiv_i2, wrem_i2]; omega) | grind | grind [wr32])⟩
theorem ok_X_goesOff_205 {Ib : IMem} (fu : Nat) (k_264 : IMem → Res) (o0 : Nat) (p1 : Int) (hfu : 5000000000 < fu) (qp1 : inr p1) (hfs : FS o0 Ib) {Q_ : Int → IMem → Prop} (hk_264 : ∀ (I9 : IMem), GX o0 I9 → ((∀ q j, ¬ (q = o0 + 14) → I9 q j = Ib q j) ∧ (∀ i : Nat, (i : Int) < Ib o0 32 → 1 ≤ I9 (o0 + 14) (6 * i + 1) ∧ I9 (o0 + 14) (6 * i + 1) ≤ 8)) → sat (k_264 I9) Q_) (hret : ∀ v I, inr v → GX o0 I → ((∀ q j, ¬ (q = o0 + 14) → I q j = Ib q j) ∧ (False)) → sat (zr v I) Q_) : ∀ (m : Nat) (w2 : Int) (I0 : IMem), inr w2 → GX o0 I0 → ((∀ q j, ¬ (q = o0 + 14) → I0 q j = Ib q j) ∧ (0 ≤ w2 ∧ ∀ i : Nat, (i : Int) < w2 → 1 ≤ I0 (o0 + 14) (6 * i + 1) ∧ I0 (o0 + 14) (6 * i + 1) ≤ 8)) → (240 - w2).toNat < m → sat (f_X_goesOff_205 fu k_264 o0 p1 m w2 I0) Q_ := by
  intro m
  induction m with
  | zero => intro w2 I0 _ _ _ h0; exact absurd h0 (Nat.not_lt_zero _)
  | succ m hR_ =>
    intro w2 I0 ⟨aw2, bw2⟩ hRI0 hinv hmeas
    have fI0 := hinv.1; replace hinv := hinv.2
    show sat (fb_X_goesOff_205 fu k_264 o0 p1 (f_X_goesOff_205 fu k_264 o0 p1 m) w2 I0) Q_
    unfold fb_X_goesOff_205
    obtain ⟨ap1, bp1⟩ := qp1
    have hft := hfs.1
    have hf32 : I0 o0 32 = Ib o0 32 := fI0 _ _ (by omega)
    have hfs0 : FS o0 I0 := fs_same hfs (fun k _ => fI0 _ _ (by omega)) (fun k => fI0 _ _ (by omega)) (fun k => fI0 _ _ (by omega)) (fun k => fI0 _ _ (by omega)) (fI0 _ _ (by omega)) (fI0 _ _ (by omega))
    have ⟨r_1a, r_1b⟩ : -2147483648 ≤ I0 o0 32 ∧ I0 o0 32 < 2147483648 := hRI0.1 o0 32
    refine sat_ite (fun q_2 => ?_) (fun q_2 => ?_)
    · refine ok_X_goesOff_215 (Ib := I0) fu _ o0 p1 w2 hfu ⟨ap1, bp1⟩ ⟨aw2, bw2⟩ (by first | omega | (simp (disch := omega) only [wr32_i2, wdiv_i2, wrem_i2]; omega) | grind | grind [wr32]) (by first | omega | (simp (disch := omega) only [wr32_i2, wdiv_i2, wrem_i2]; omega) | grind | grind [wr32]) ?_ (fun v I h1 h2 h3 => hret v I h1 h2 (by first | exact h3.elim | exact h3.2.elim)) fu 0 I0 (lit_in rfl) hRI0 ⟨(fun _ _ _ => rfl), (by first | omega | (simp (disch := omega) only [wr32_i2, wdiv_i2, wrem_i2]; omega) | grind | grind [wr32])⟩ (by first | omega | (simp (disch := omega) only [wr32_i2, wdiv_i2, wrem_i2]; omega) | grind | grind [wr32])
      · intro I35  hRI35 xI35
        have fI35 := xI35.1; replace xI35 := xI35.2
        refine sat_zl (wr32_in _) (fun x36 hx36 ax36 bx36 => ?_)
        try simp (disch := omega) only [wr32_i2, wdiv_i2, wrem_i2] at hx36
        exact hR_ x36 I35 ⟨ax36, bx36⟩ hRI35 ⟨(by intro q j hq; grind), (by refine ⟨by omega, fun i hi => ?_⟩; by_cases qi : (i : Int) < w2; (rw [xI35.1 (6 * i + 1) (by omega)]; exact hinv.2 i qi); (have h := xI35.2; rw [show (6 * w2 + 1).toNat = 6 * i + 1 by omega] at h; exact h))⟩ (by first | omega | (simp (disch := omega) only [wr32_i2, wdiv_i2, wrem_i2]; omega) | grind | grind [wr32])
    · exact hk_264 I0 hRI0 ⟨(by intro q j hq; grind), (by first | omega | (simp (disch := omega) only [wr32_i2, wdiv_i2, wrem_i2]; omega) | grind | grind [wr32])⟩
theorem ok_X_goesOff_266 {Ib : IMem} (fu : Nat) (k_283 : IMem → Res) (o0 : Nat) (p1 : Int) (hfu : 5000000000 < fu) (qp1 : inr p1) (hfs : FS o0 Ib) {Q_ : Int → IMem → Prop} (hk_283 : ∀ (I9 : IMem), GX o0 I9 → ((∀ q j, ¬ (q = o0 + 1) → I9 q j = Ib q j) ∧ (I9 (o0 + 1) 70 = Ib (o0 + 1) 70)) → sat (k_283 I9) Q_) (hret : ∀ v I, inr v → GX o0 I → ((∀ q j, ¬ (q = o0 + 1) → I q j = Ib q j) ∧ (False)) → sat (zr v I) Q_) : ∀ (m : Nat) (w2 : Int) (I0 : IMem), inr w2 → GX o0 I0 → ((∀ q j, ¬ (q = o0 + 1) → I0 q j = Ib q j) ∧ (0 ≤ w2 ∧ w2 ≤ 6 ∧ I0 (o0 + 1) 70 = Ib (o0 + 1) 70 ∧ ∀ j : Nat, 140 + 240 * w2 ≤ (j : Int) → I0 (o0 + 1) j = Ib (o0 + 1) j)) → (6 - w2).toNat < m → sat (f_X_goesOff_266 fu k_283 o0 p1 m w2 I0) Q_ := by
  intro m
  induction m with
  | zero => intro w2 I0 _ _ _ h0; exact absurd h0 (Nat.not_lt_zero _)
  | succ m hR_ =>
    intro w2 I0 ⟨aw2, bw2⟩ hRI0 hinv hmeas
    have fI0 := hinv.1; replace hinv := hinv.2
    show sat (fb_X_goesOff_266 fu k_283 o0 p1 (f_X_goesOff_266 fu k_283 o0 p1 m) w2 I0) Q_
    unfold fb_X_goesOff_266
    obtain ⟨ap1, bp1⟩ := qp1
    have hst : w2 < 6 → ST o0 w2 I0 := fun q p h1 h2 => by have h := hfs.2.2.2 (40 * w2 + p).toNat (by omega); rw [fI0 (o0 + 9) _ (by omega), hinv.2.2.2 _ (by omega), show (141 + 6 * (40 * w2 + p)).toNat = 141 + 6 * (40 * w2 + p).toNat by omega]; exact ⟨h.1, h.2.1⟩
    refine sat_ite (fun q_1 => ?_) (fun q_1 => ?_)
    · refine sat_zb (ok_X_movesUp fu o0 w2 I0 hfu hRI0 ⟨aw2, bw2⟩ (by first | omega | (simp (disch := omega) only [wr32_i2, wdiv_i2, wrem_i2]; omega) | grind | grind [wr32]) (by first | omega | (simp (disch := omega) only [wr32_i2, wdiv_i2, wrem_i2]; omega) | grind | grind [wr32])) (fun u_2 I39 c_3 ⟨⟨au_2, bu_2⟩, hRI39, pI39⟩ => ?_)
      have fI39 : ∀ q j, ¬ (q = o0 + 1) → I39 q j = I0 q j := fc_X_movesUp (fun q j => q = o0 + 1) fu o0 w2 I0 (fun _ => by simp) c_3
      refine sat_zl (wr32_in _) (fun x41 hx41 ax41 bx41 => ?_)
      try simp (disch := omega) only [wr32_i2, wdiv_i2, wrem_i2] at hx41
      exact hR_ x41 I39 ⟨ax41, bx41⟩ hRI39 ⟨(by intro q j hq; grind), (by first | omega | (simp (disch := omega) only [wr32_i2, wdiv_i2, wrem_i2]; omega) | grind | grind [wr32])⟩ (by first | omega | (simp (disch := omega) only [wr32_i2, wdiv_i2, wrem_i2]; omega) | grind | grind [wr32])
    · exact hk_283 I0 hRI0 ⟨(by intro q j hq; grind), (by first | omega | (simp (disch := omega) only [wr32_i2, wdiv_i2, wrem_i2]; omega) | grind | grind [wr32])⟩
theorem ok_X_goesOff_285 {Ib : IMem} (fu : Nat) (k_369 : IMem → Res) (o0 : Nat) (p1 : Int) (hfu : 5000000000 < fu) (qp1 : inr p1) (hot : ∀ i : Nat, (i : Int) < Ib o0 32 → 1 ≤ Ib (o0 + 14) (6 * i + 1) ∧ Ib (o0 + 14) (6 * i + 1) ≤ 8) (hn : 0 ≤ Ib o0 32 ∧ Ib o0 32 ≤ 240) {Q_ : Int → IMem → Prop} (hk_369 : ∀ (I9 : IMem), GX o0 I9 → ((∀ q j, ¬ (q = o0 + 1 ∨ (q = o0 ∧ j = 24)) → I9 q j = Ib q j) ∧ (I9 (o0 + 1) 70 = Ib (o0 + 1) 70)) → sat (k_369 I9) Q_) (hret : ∀ v I, inr v → GX o0 I → ((∀ q j, ¬ (q = o0 + 1 ∨ (q = o0 ∧ j = 24)) → I q j = Ib q j) ∧ (False)) → sat (zr v I) Q_) : ∀ (m : Nat) (w2 : Int) (I0 : IMem), inr w2 → GX o0 I0 → ((∀ q j, ¬ (q = o0 + 1 ∨ (q = o0 ∧ j = 24)) → I0 q j = Ib q j) ∧ (0 ≤ w2 ∧ I0 (o0 + 1) 70 = Ib (o0 + 1) 70)) → (240 - w2).toNat < m → sat (f_X_goesOff_285 fu k_369 o0 p1 m w2 I0) Q_ := by
  intro m
  induction m with
  | zero => intro w2 I0 _ _ _ h0; exact absurd h0 (Nat.not_lt_zero _)
  | succ m hR_ =>
    intro w2 I0 ⟨aw2, bw2⟩ hRI0 hinv hmeas
    have fI0 := hinv.1; replace hinv := hinv.2
    show sat (fb_X_goesOff_285 fu k_369 o0 p1 (f_X_goesOff_285 fu k_369 o0 p1 m) w2 I0) Q_
    unfold fb_X_goesOff_285
    obtain ⟨ap1, bp1⟩ := qp1
    have hf32 : I0 o0 32 = Ib o0 32 := fI0 _ _ (by omega)
    have ho1 : w2 < I0 o0 32 → 1 ≤ I0 (o0 + 14) (6 * w2 + 1).toNat ∧ I0 (o0 + 14) (6 * w2 + 1).toNat ≤ 8 := fun q => by rw [fI0 (o0 + 14) _ (by omega), show (6 * w2 + 1).toNat = 6 * w2.toNat + 1 by omega]; exact hot w2.toNat (by omega)
    have ⟨r_1a, r_1b⟩ : -2147483648 ≤ I0 o0 32 ∧ I0 o0 32 < 2147483648 := hRI0.1 o0 32
    refine sat_ite (fun q_2 => ?_) (fun q_2 => ?_)
    · refine sat_zl (wr32_in _) (fun x43 hx43 ax43 bx43 => ?_)
      try simp (disch := omega) only [wr32_i2, wdiv_i2, wrem_i2] at hx43
      refine sat_zg (by first | omega | grind | grind [wr32]) (fun g_3 => ?_)
      refine sat_zl (wr32_in _) (fun x44 hx44 ax44 bx44 => ?_)
      try simp (disch := omega) only [wr32_i2, wdiv_i2, wrem_i2] at hx44
      refine sat_zg (by first | omega | grind | grind [wr32]) (fun g_4 => ?_)
      refine sat_zl (wr32_in _) (fun x45 hx45 ax45 bx45 => ?_)
      try simp (disch := omega) only [wr32_i2, wdiv_i2, wrem_i2] at hx45
      have ho2 := ho1 (by omega)
      rw [← hx44] at ho2
      have ho3 : 1 ≤ I0 (o0 + 14) x45.toNat ∧ I0 (o0 + 14) x45.toNat ≤ 8 := by rw [show x45 = x44 by omega]; exact ho2
      refine sat_zg (by first | omega | grind | grind [wr32]) (fun g_5 => ?_)
      refine sat_zl (wr32_in _) (fun x46 hx46 ax46 bx46 => ?_)
      try simp (disch := omega) only [wr32_i2, wdiv_i2, wrem_i2] at hx46
      refine sat_zg (by first | omega | grind | grind [wr32]) (fun g_6 => ?_)
      refine sat_zl (wr32_in _) (fun x47 hx47 ax47 bx47 => ?_)
      try simp (disch := omega) only [wr32_i2, wdiv_i2, wrem_i2] at hx47
      refine sat_zg (by first | omega | grind | grind [wr32]) (fun g_7 => ?_)
      refine sat_zl (wr32_in _) (fun x48 hx48 ax48 bx48 => ?_)
      try simp (disch := omega) only [wr32_i2, wdiv_i2, wrem_i2] at hx48
      refine sat_zg (by first | omega | grind | grind [wr32]) (fun g_8 => ?_)
      have ⟨r_10a, r_10b⟩ : -2147483648 ≤ I0 (o0 + 14) x43.toNat ∧ I0 (o0 + 14) x43.toNat < 2147483648 := hRI0.1 (o0 + 14) x43.toNat
      have ⟨r_11a, r_11b⟩ : -2147483648 ≤ I0 (o0 + 14) x44.toNat ∧ I0 (o0 + 14) x44.toNat < 2147483648 := hRI0.1 (o0 + 14) x44.toNat
      have ⟨r_12a, r_12b⟩ : -2147483648 ≤ I0 (o0 + 14) x45.toNat ∧ I0 (o0 + 14) x45.toNat < 2147483648 := hRI0.1 (o0 + 14) x45.toNat
      have ⟨r_13a, r_13b⟩ : -2147483648 ≤ I0 (o0 + 14) x46.toNat ∧ I0 (o0 + 14) x46.toNat < 2147483648 := hRI0.1 (o0 + 14) x46.toNat
      have ⟨r_14a, r_14b⟩ : -2147483648 ≤ I0 (o0 + 14) x47.toNat ∧ I0 (o0 + 14) x47.toNat < 2147483648 := hRI0.1 (o0 + 14) x47.toNat
      have ⟨r_15a, r_15b⟩ : -2147483648 ≤ I0 (o0 + 14) x48.toNat ∧ I0 (o0 + 14) x48.toNat < 2147483648 := hRI0.1 (o0 + 14) x48.toNat
      refine sat_zb (ok_X_stands fu o0 0 (I0 (o0 + 14) x43.toNat) (I0 (o0 + 14) x44.toNat) (I0 (o0 + 14) x45.toNat) (I0 (o0 + 14) x46.toNat) (I0 (o0 + 14) x47.toNat) (I0 (o0 + 14) x48.toNat) I0 hfu hRI0 (lit_in rfl) (hRI0.1 (o0 + 14) x43.toNat) (hRI0.1 (o0 + 14) x44.toNat) (hRI0.1 (o0 + 14) x45.toNat) (hRI0.1 (o0 + 14) x46.toNat) (hRI0.1 (o0 + 14) x47.toNat) (hRI0.1 (o0 + 14) x48.toNat) (by first | omega | (simp (disch := omega) only [wr32_i2, wdiv_i2, wrem_i2]; omega) | grind | grind [wr32])) (fun y49 I50 c_9 ⟨⟨ay49, by49⟩, hRI50, pI50⟩ => ?_)
      have fI50 : ∀ q j, ¬ (q = o0 + 1 ∨ (q = o0 ∧ j = 24)) → I50 q j = I0 q j := fc_X_stands (fun q j => q = o0 + 1 ∨ (q = o0 ∧ j = 24)) fu o0 0 (I0 (o0 + 14) x43.toNat) (I0 (o0 + 14) x44.toNat) (I0 (o0 + 14) x45.toNat) (I0 (o0 + 14) x46.toNat) (I0 (o0 + 14) x47.toNat) (I0 (o0 + 14) x48.toNat) I0 (fun _ => by simp) (by simp) c_9
      refine sat_zl (wr32_in _) (fun x52 hx52 ax52 bx52 => ?_)
      try simp (disch := omega) only [wr32_i2, wdiv_i2, wrem_i2] at hx52
      exact hR_ x52 I50 ⟨ax52, bx52⟩ hRI50 ⟨(by intro q j hq; grind), (by first | omega | (simp (disch := omega) only [wr32_i2, wdiv_i2, wrem_i2]; omega) | grind | grind [wr32])⟩ (by first | omega | (simp (disch := omega) only [wr32_i2, wdiv_i2, wrem_i2]; omega) | grind | grind [wr32])
    · exact hk_369 I0 hRI0 ⟨(by intro q j hq; grind), (by first | omega | (simp (disch := omega) only [wr32_i2, wdiv_i2, wrem_i2]; omega) | grind | grind [wr32])⟩
