/-! safety of the reference -/
theorem ok_X_laysRow (fu : Nat) (o0 : Nat) (I0 : IMem) (hfu : 5000000000 < fu) (hRI0 : GX o0 I0) : sat (f_X_laysRow fu o0 I0) (fun v I => inr v ∧ GX o0 I ∧ (RW o0 I)) := by
  unfold f_X_laysRow
  refine sat_zwX0 hRI0 (lit_in rfl) (by first | omega | (simp (disch := omega) only [wr32_i2, wdiv_i2, wrem_i2]; omega) | grind | grind [wr32]) (fun I1 eI1 hRI1 => ?_)
  have h40 : I1 o0 40 = 0 := by rw [eI1, if_pos ⟨rfl, rfl⟩]
  refine ok_X_laysRow_7 (Ib := I1) fu o0 hfu (fun v I h1 h2 h3 => sat_zr ⟨h1, h2, (by first | exact trivial | exact h3 | grind)⟩) fu 0 I1 (lit_in rfl) hRI1 ⟨(fun _ _ _ => rfl), ⟨by omega, by omega, rw_0 h40, by omega⟩⟩ (by first | omega | (simp (disch := omega) only [wr32_i2, wdiv_i2, wrem_i2]; omega) | grind | grind [wr32])
theorem ok_X_spot (fu : Nat) (a0 : Int) (a1 : Int) (a2 : Int) (I0 : IMem) (hfu : 5000000000 < fu) (hRI0 : RG I0) (qa0 : inr a0) (qa1 : inr a1) (qa2 : inr a2) (h0 : 0 ≤ a0 ∧ a0 ≤ 145 ∧ 0 ≤ a1 ∧ a1 ≤ 8 ∧ 0 ≤ a2 ∧ a2 ≤ 3) : sat (f_X_spot fu a0 a1 a2 I0) (fun v I => inr v ∧ RG I ∧ (I = I0 ∧ (v = 36 * a0 + 4 * a1 + a2))) := by
  unfold f_X_spot
  obtain ⟨aa0, ba0⟩ := qa0
  obtain ⟨aa1, ba1⟩ := qa1
  obtain ⟨aa2, ba2⟩ := qa2
  exact sat_zr ⟨(wr32_in _), hRI0, ⟨rfl, (by first | omega | (simp (disch := omega) only [wr32_i2, wdiv_i2, wrem_i2]; omega) | grind | grind [wr32])⟩⟩
theorem ok_X_with (fu : Nat) (o0 : Nat) (a1 : Int) (a2 : Int) (I0 : IMem) (hfu : 5000000000 < fu) (hRI0 : GX o0 I0) (qa1 : inr a1) (qa2 : inr a2) (h0 : 0 ≤ a2 ∧ a2 < 240 ∧ 0 ≤ a1 ∧ a1 ≤ 3) : sat (f_X_with fu o0 a1 a2 I0) (fun v I => inr v ∧ GX o0 I ∧ (I = I0 ∧ (0 ≤ v ∧ v ≤ 3))) := by
  unfold f_X_with
  obtain ⟨aa1, ba1⟩ := qa1
  obtain ⟨aa2, ba2⟩ := qa2
  have hwo := wor_3 a1 (by omega)
  refine sat_zl (wr32_in _) (fun x1 hx1 ax1 bx1 => ?_)
  try simp (disch := omega) only [wr32_i2, wdiv_i2, wrem_i2] at hx1
  refine sat_zg (by first | omega | grind | grind [wr32]) (fun g_1 => ?_)
  have ⟨r_2a, r_2b⟩ : -2147483648 ≤ I0 (o0 + 1) x1.toNat ∧ I0 (o0 + 1) x1.toNat < 2147483648 := hRI0.1 (o0 + 1) x1.toNat
  try have r_2many := gx_many hRI0 x1.toNat (by omega) (by omega)
  try have r_2seen := gx_seen hRI0 x1.toNat (by omega) (by omega)
  try have r_2part := gx_part hRI0 x1.toNat (by omega) (by omega)
  try have r_2rows := gx_rows hRI0 x1.toNat (by omega) (by omega) (by omega)
  refine sat_ite (fun q_3 => ?_) (fun q_3 => ?_)
  · exact sat_zr ⟨(wor_in _ _), hRI0, ⟨rfl, (by first | omega | (simp (disch := omega) only [wr32_i2, wdiv_i2, wrem_i2]; omega) | grind | grind [wr32])⟩⟩
  · exact sat_zr ⟨(wor_in _ _), hRI0, ⟨rfl, (by first | omega | (simp (disch := omega) only [wr32_i2, wdiv_i2, wrem_i2]; omega) | grind | grind [wr32])⟩⟩
theorem ok_X_taking (fu : Nat) (o0 : Nat) (a1 : Int) (a2 : Int) (a3 : Int) (I0 : IMem) (hfu : 5000000000 < fu) (hRI0 : GX o0 I0) (qa1 : inr a1) (qa2 : inr a2) (qa3 : inr a3) (h0 : 0 ≤ a1 ∧ a1 < I0 o0 40 ∧ 0 ≤ a2 ∧ a2 ≤ 8 ∧ 0 ≤ a3 ∧ a3 ≤ 3) (hrw : RW o0 I0) : sat (f_X_taking fu o0 a1 a2 a3 I0) (fun v I => inr v ∧ GX o0 I ∧ (I = I0 ∧ (0 ≤ v → I0 (o0 + 1) (141 + 6 * (I0 (o0 + 16) a1.toNat).toNat) ≤ a2))) := by
  unfold f_X_taking
  obtain ⟨aa1, ba1⟩ := qa1
  obtain ⟨aa2, ba2⟩ := qa2
  obtain ⟨aa3, ba3⟩ := qa3
  have hrow := hrw.2.2 a1.toNat (by omega)
  have hr40 := hrw.2.1
  have hrs := gx_rows hRI0 (141 + 6 * (I0 (o0 + 16) a1.toNat).toNat) (by omega) (by omega) (by omega)
  refine sat_zg (by first | omega | grind | grind [wr32]) (fun g_1 => ?_)
  have ⟨r_2a, r_2b⟩ : -2147483648 ≤ I0 (o0 + 16) a1.toNat ∧ I0 (o0 + 16) a1.toNat < 2147483648 := hRI0.1 (o0 + 16) a1.toNat
  refine sat_zl (wr32_in _) (fun x1 hx1 ax1 bx1 => ?_)
  try simp (disch := omega) only [wr32_i2, wdiv_i2, wrem_i2] at hx1
  have hs1 : I0 (o0 + 1) x1.toNat = I0 (o0 + 1) (141 + 6 * (I0 (o0 + 16) a1.toNat).toNat) := by rw [show x1.toNat = 141 + 6 * (I0 (o0 + 16) a1.toNat).toNat by omega]
  refine sat_zg (by first | omega | grind | grind [wr32]) (fun g_3 => ?_)
  have ⟨r_4a, r_4b⟩ : -2147483648 ≤ I0 (o0 + 1) x1.toNat ∧ I0 (o0 + 1) x1.toNat < 2147483648 := hRI0.1 (o0 + 1) x1.toNat
  try have r_4many := gx_many hRI0 x1.toNat (by omega) (by omega)
  try have r_4seen := gx_seen hRI0 x1.toNat (by omega) (by omega)
  try have r_4part := gx_part hRI0 x1.toNat (by omega) (by omega)
  try have r_4rows := gx_rows hRI0 x1.toNat (by omega) (by omega) (by omega)
  refine sat_zl (hRI0.1 (o0 + 1) x1.toNat) (fun x2 hx2 ax2 bx2 => ?_)
  refine sat_ite (fun q_5 => ?_) (fun q_5 => ?_)
  · exact sat_zr ⟨(lit_in rfl), hRI0, ⟨rfl, (by first | omega | (simp (disch := omega) only [wr32_i2, wdiv_i2, wrem_i2]; omega) | grind | grind [wr32])⟩⟩
  · refine sat_zg (by first | omega | grind | grind [wr32]) (fun g_6 => ?_)
    refine sat_zb (ok_X_with fu o0 a3 (I0 (o0 + 16) a1.toNat) I0 hfu hRI0 ⟨aa3, ba3⟩ (hRI0.1 (o0 + 16) a1.toNat) (by first | omega | (simp (disch := omega) only [wr32_i2, wdiv_i2, wrem_i2]; omega) | grind | grind [wr32])) (fun y3 I4 c_7 ⟨⟨ay3, by3⟩, _, pI4⟩ => ?_)
    have eI4 := pI4.1.symm; replace pI4 := pI4.2; subst eI4
    refine sat_zb (ok_X_spot fu (wr32 (a1 + 1)) (wr32 (a2 - x2)) y3 I0 hfu hRI0.1 (wr32_in _) (wr32_in _) ⟨ay3, by3⟩ (by first | omega | (simp (disch := omega) only [wr32_i2, wdiv_i2, wrem_i2]; omega) | grind | grind [wr32])) (fun y6 I7 c_8 ⟨⟨ay6, by6⟩, _, pI7⟩ => ?_)
    have eI7 := pI7.1.symm; replace pI7 := pI7.2; subst eI7
    try simp (disch := omega) only [wr32_i2, wdiv_i2, wrem_i2] at pI7
    refine sat_zg (by first | omega | grind | grind [wr32]) (fun g_9 => ?_)
    have ⟨r_10a, r_10b⟩ : -2147483648 ≤ I0 (o0 + 17) y6.toNat ∧ I0 (o0 + 17) y6.toNat < 2147483648 := hRI0.1 (o0 + 17) y6.toNat
    exact sat_zr ⟨(wr32_in _), hRI0, ⟨rfl, (by first | omega | (simp (disch := omega) only [wr32_i2, wdiv_i2, wrem_i2]; omega) | grind | grind [wr32])⟩⟩
theorem ok_X_reckons_14 {Ib : IMem} (fu : Nat) (k_50 : IMem → Res) (o0 : Nat) (p1 : Int) (hfu : 5000000000 < fu) (qp1 : inr p1) (hp : 0 ≤ p1 ∧ p1 ≤ 8) (hrw : RW o0 Ib) {Q_ : Int → IMem → Prop} (hk_50 : ∀ (I9 : IMem), GX o0 I9 → ((∀ q j, ¬ (q = o0 + 17) → I9 q j = Ib q j) ∧ (True)) → sat (k_50 I9) Q_) (hret : ∀ v I, inr v → GX o0 I → ((∀ q j, ¬ (q = o0 + 17) → I q j = Ib q j) ∧ (False)) → sat (zr v I) Q_) : ∀ (m : Nat) (w2 : Int) (I0 : IMem), inr w2 → GX o0 I0 → ((∀ q j, ¬ (q = o0 + 17) → I0 q j = Ib q j) ∧ (0 ≤ w2)) → (4 - w2).toNat < m → sat (f_X_reckons_14 fu k_50 o0 p1 m w2 I0) Q_ := by
  intro m
  induction m with
  | zero => intro w2 I0 _ _ _ h0; exact absurd h0 (Nat.not_lt_zero _)
  | succ m hR_ =>
    intro w2 I0 ⟨aw2, bw2⟩ hRI0 hinv hmeas
    have fI0 := hinv.1; replace hinv := hinv.2
    show sat (fb_X_reckons_14 fu k_50 o0 p1 (f_X_reckons_14 fu k_50 o0 p1 m) w2 I0) Q_
    unfold fb_X_reckons_14
    obtain ⟨ap1, bp1⟩ := qp1
    have hrw0 := rw_fr hrw (fun j => fI0 _ _ (by omega)) (fI0 _ _ (by omega))
    have hr40 := hrw0.2.1
    have hr40a := hrw0.1
    have hr40b : I0 o0 40 = Ib o0 40 := fI0 _ _ (by omega)
    refine sat_ite (fun q_1 => ?_) (fun q_1 => ?_)
    · have ⟨r_3a, r_3b⟩ : -2147483648 ≤ I0 o0 40 ∧ I0 o0 40 < 2147483648 := hRI0.1 o0 40
      refine sat_zb (ok_X_spot fu (I0 o0 40) p1 w2 I0 hfu hRI0.1 (hRI0.1 o0 40) ⟨ap1, bp1⟩ ⟨aw2, bw2⟩ (by first | omega | (simp (disch := omega) only [wr32_i2, wdiv_i2, wrem_i2]; omega) | grind | grind [wr32])) (fun y4 I5 c_2 ⟨⟨ay4, by4⟩, _, pI5⟩ => ?_)
      have eI5 := pI5.1.symm; replace pI5 := pI5.2; subst eI5
      refine sat_zj (fun k7 ek7 => ?_)
      have hk7 : ∀ (x9 : Int) (I8 : IMem), inr x9 → GX o0 I8 → (I8 = I0 ∧ (True)) → sat (k7 x9 I8) Q_ := by
        intro x9 I8 ⟨ax9, bx9⟩ hRI8 jk7
        subst ek7
        have ejk7 := jk7.1.symm; replace jk7 := jk7.2; subst ejk7
        refine sat_zg (by first | omega | grind | grind [wr32]) (fun g_4 => ?_)
        refine sat_zwXn (c := 17) hRI0 ⟨ax9, bx9⟩ (by decide) (Or.inl (by decide)) (fun I10 eI10 hRI10 => ?_)
        refine sat_zl (wr32_in _) (fun x11 hx11 ax11 bx11 => ?_)
        try simp (disch := omega) only [wr32_i2, wdiv_i2, wrem_i2] at hx11
        exact hR_ x11 I10 ⟨ax11, bx11⟩ hRI10 ⟨(by intro q j hq; grind), (by first | omega | (simp (disch := omega) only [wr32_i2, wdiv_i2, wrem_i2]; omega) | grind | grind [wr32])⟩ (by first | omega | (simp (disch := omega) only [wr32_i2, wdiv_i2, wrem_i2]; omega) | grind | grind [wr32])
      clear ek7
      refine sat_ite (fun q_5 => ?_) (fun q_5 => ?_)
      · exact hk7 ((-99)) I0 (lit_in rfl) hRI0 ⟨rfl, trivial⟩
      · exact hk7 0 I0 (lit_in rfl) hRI0 ⟨rfl, trivial⟩
    · exact hk_50 I0 hRI0 ⟨(by intro q j hq; grind), trivial⟩
theorem ok_X_reckons_6 {Ib : IMem} (fu : Nat) (k_56 : IMem → Res) (o0 : Nat) (hfu : 5000000000 < fu) (hrw : RW o0 Ib) {Q_ : Int → IMem → Prop} (hk_56 : ∀ (I9 : IMem), GX o0 I9 → ((∀ q j, ¬ (q = o0 + 17) → I9 q j = Ib q j) ∧ (True)) → sat (k_56 I9) Q_) (hret : ∀ v I, inr v → GX o0 I → ((∀ q j, ¬ (q = o0 + 17) → I q j = Ib q j) ∧ (False)) → sat (zr v I) Q_) : ∀ (m : Nat) (w1 : Int) (I0 : IMem), inr w1 → GX o0 I0 → ((∀ q j, ¬ (q = o0 + 17) → I0 q j = Ib q j) ∧ (0 ≤ w1)) → (9 - w1).toNat < m → sat (f_X_reckons_6 fu k_56 o0 m w1 I0) Q_ := by
  intro m
  induction m with
  | zero => intro w1 I0 _ _ _ h0; exact absurd h0 (Nat.not_lt_zero _)
  | succ m hR_ =>
    intro w1 I0 ⟨aw1, bw1⟩ hRI0 hinv hmeas
    have fI0 := hinv.1; replace hinv := hinv.2
    show sat (fb_X_reckons_6 fu k_56 o0 (f_X_reckons_6 fu k_56 o0 m) w1 I0) Q_
    unfold fb_X_reckons_6
    have hrw0 := rw_fr hrw (fun j => fI0 _ _ (by omega)) (fI0 _ _ (by omega))
    have hr40 := hrw0.2.1
    have hr40a := hrw0.1
    have hr40b : I0 o0 40 = Ib o0 40 := fI0 _ _ (by omega)
    refine sat_ite (fun q_1 => ?_) (fun q_1 => ?_)
    · refine ok_X_reckons_14 (Ib := I0) fu _ o0 w1 hfu ⟨aw1, bw1⟩ (by first | omega | (simp (disch := omega) only [wr32_i2, wdiv_i2, wrem_i2]; omega) | grind | grind [wr32]) (by first | omega | (simp (disch := omega) only [wr32_i2, wdiv_i2, wrem_i2]; omega) | grind | grind [wr32]) ?_ (fun v I h1 h2 h3 => hret v I h1 h2 (by first | exact h3.elim | exact h3.2.elim)) fu 0 I0 (lit_in rfl) hRI0 ⟨(fun _ _ _ => rfl), (by first | omega | (simp (disch := omega) only [wr32_i2, wdiv_i2, wrem_i2]; omega) | grind | grind [wr32])⟩ (by first | omega | (simp (disch := omega) only [wr32_i2, wdiv_i2, wrem_i2]; omega) | grind | grind [wr32])
      · intro I12  hRI12 xI12
        have fI12 := xI12.1; replace xI12 := xI12.2
        refine sat_zl (wr32_in _) (fun x13 hx13 ax13 bx13 => ?_)
        try simp (disch := omega) only [wr32_i2, wdiv_i2, wrem_i2] at hx13
        exact hR_ x13 I12 ⟨ax13, bx13⟩ hRI12 ⟨(by intro q j hq; grind), (by first | omega | (simp (disch := omega) only [wr32_i2, wdiv_i2, wrem_i2]; omega) | grind | grind [wr32])⟩ (by first | omega | (simp (disch := omega) only [wr32_i2, wdiv_i2, wrem_i2]; omega) | grind | grind [wr32])
    · exact hk_56 I0 hRI0 ⟨(by intro q j hq; grind), trivial⟩
theorem ok_X_reckons_77 {Ib : IMem} (fu : Nat) (k_137 : IMem → Res) (o0 : Nat) (p1 : Int) (p2 : Int) (hfu : 5000000000 < fu) (qp1 : inr p1) (qp2 : inr p2) (hp : 0 ≤ p1 ∧ p1 < Ib o0 40 ∧ 0 ≤ p2 ∧ p2 ≤ 8) (hrw : RW o0 Ib) {Q_ : Int → IMem → Prop} (hk_137 : ∀ (I9 : IMem), GX o0 I9 → ((∀ q j, ¬ (q = o0 + 17) → I9 q j = Ib q j) ∧ (True)) → sat (k_137 I9) Q_) (hret : ∀ v I, inr v → GX o0 I → ((∀ q j, ¬ (q = o0 + 17) → I q j = Ib q j) ∧ (False)) → sat (zr v I) Q_) : ∀ (m : Nat) (w3 : Int) (I0 : IMem), inr w3 → GX o0 I0 → ((∀ q j, ¬ (q = o0 + 17) → I0 q j = Ib q j) ∧ (0 ≤ w3)) → (4 - w3).toNat < m → sat (f_X_reckons_77 fu k_137 o0 p1 p2 m w3 I0) Q_ := by
  intro m
  induction m with
  | zero => intro w3 I0 _ _ _ h0; exact absurd h0 (Nat.not_lt_zero _)
  | succ m hR_ =>
    intro w3 I0 ⟨aw3, bw3⟩ hRI0 hinv hmeas
    have fI0 := hinv.1; replace hinv := hinv.2
    show sat (fb_X_reckons_77 fu k_137 o0 p1 p2 (f_X_reckons_77 fu k_137 o0 p1 p2 m) w3 I0) Q_
    unfold fb_X_reckons_77
    obtain ⟨ap1, bp1⟩ := qp1
    obtain ⟨ap2, bp2⟩ := qp2
    have hrw0 := rw_fr hrw (fun j => fI0 _ _ (by omega)) (fI0 _ _ (by omega))
    have hr40 := hrw0.2.1
    have hr40a := hrw0.1
    have hr40b : I0 o0 40 = Ib o0 40 := fI0 _ _ (by omega)
    refine sat_ite (fun q_1 => ?_) (fun q_1 => ?_)
    · refine sat_zb (ok_X_taking fu o0 p1 p2 w3 I0 hfu hRI0 ⟨ap1, bp1⟩ ⟨ap2, bp2⟩ ⟨aw3, bw3⟩ (by first | omega | (simp (disch := omega) only [wr32_i2, wdiv_i2, wrem_i2]; omega) | grind | grind [wr32]) (by first | omega | (simp (disch := omega) only [wr32_i2, wdiv_i2, wrem_i2]; omega) | grind | grind [wr32])) (fun y16 I17 c_2 ⟨⟨ay16, by16⟩, _, pI17⟩ => ?_)
      have eI17 := pI17.1.symm; replace pI17 := pI17.2; subst eI17
      refine sat_zb (ok_X_spot fu (wr32 (p1 + 1)) p2 w3 I0 hfu hRI0.1 (wr32_in _) ⟨ap2, bp2⟩ ⟨aw3, bw3⟩ (by first | omega | (simp (disch := omega) only [wr32_i2, wdiv_i2, wrem_i2]; omega) | grind | grind [wr32])) (fun y19 I20 c_3 ⟨⟨ay19, by19⟩, _, pI20⟩ => ?_)
      have eI20 := pI20.1.symm; replace pI20 := pI20.2; subst eI20
      try simp (disch := omega) only [wr32_i2, wdiv_i2, wrem_i2] at pI20
      refine sat_zg (by first | omega | grind | grind [wr32]) (fun g_4 => ?_)
      have ⟨r_5a, r_5b⟩ : -2147483648 ≤ I0 (o0 + 17) y19.toNat ∧ I0 (o0 + 17) y19.toNat < 2147483648 := hRI0.1 (o0 + 17) y19.toNat
      refine sat_zl (hRI0.1 (o0 + 17) y19.toNat) (fun x22 hx22 ax22 bx22 => ?_)
      refine sat_zb (ok_X_spot fu p1 p2 w3 I0 hfu hRI0.1 ⟨ap1, bp1⟩ ⟨ap2, bp2⟩ ⟨aw3, bw3⟩ (by first | omega | (simp (disch := omega) only [wr32_i2, wdiv_i2, wrem_i2]; omega) | grind | grind [wr32])) (fun y23 I24 c_6 ⟨⟨ay23, by23⟩, _, pI24⟩ => ?_)
      have eI24 := pI24.1.symm; replace pI24 := pI24.2; subst eI24
      refine sat_zj (fun k26 ek26 => ?_)
      have hk26 : ∀ (x28 : Int) (I27 : IMem), inr x28 → GX o0 I27 → (I27 = I0 ∧ (True)) → sat (k26 x28 I27) Q_ := by
        intro x28 I27 ⟨ax28, bx28⟩ hRI27 jk26
        subst ek26
        have ejk26 := jk26.1.symm; replace jk26 := jk26.2; subst ejk26
        refine sat_zg (by first | omega | grind | grind [wr32]) (fun g_7 => ?_)
        refine sat_zwXn (c := 17) hRI0 ⟨ax28, bx28⟩ (by decide) (Or.inl (by decide)) (fun I29 eI29 hRI29 => ?_)
        refine sat_zl (wr32_in _) (fun x30 hx30 ax30 bx30 => ?_)
        try simp (disch := omega) only [wr32_i2, wdiv_i2, wrem_i2] at hx30
        exact hR_ x30 I29 ⟨ax30, bx30⟩ hRI29 ⟨(by intro q j hq; grind), (by first | omega | (simp (disch := omega) only [wr32_i2, wdiv_i2, wrem_i2]; omega) | grind | grind [wr32])⟩ (by first | omega | (simp (disch := omega) only [wr32_i2, wdiv_i2, wrem_i2]; omega) | grind | grind [wr32])
      clear ek26
      refine sat_ite (fun q_8 => ?_) (fun q_8 => ?_)
      · exact hk26 y16 I0 ⟨ay16, by16⟩ hRI0 ⟨rfl, trivial⟩
      · exact hk26 x22 I0 ⟨ax22, bx22⟩ hRI0 ⟨rfl, trivial⟩
    · exact hk_137 I0 hRI0 ⟨(by intro q j hq; grind), trivial⟩
theorem ok_X_reckons_69 {Ib : IMem} (fu : Nat) (k_143 : IMem → Res) (o0 : Nat) (p1 : Int) (hfu : 5000000000 < fu) (qp1 : inr p1) (hp : 0 ≤ p1 ∧ p1 < Ib o0 40) (hrw : RW o0 Ib) {Q_ : Int → IMem → Prop} (hk_143 : ∀ (I9 : IMem), GX o0 I9 → ((∀ q j, ¬ (q = o0 + 17) → I9 q j = Ib q j) ∧ (True)) → sat (k_143 I9) Q_) (hret : ∀ v I, inr v → GX o0 I → ((∀ q j, ¬ (q = o0 + 17) → I q j = Ib q j) ∧ (False)) → sat (zr v I) Q_) : ∀ (m : Nat) (w2 : Int) (I0 : IMem), inr w2 → GX o0 I0 → ((∀ q j, ¬ (q = o0 + 17) → I0 q j = Ib q j) ∧ (0 ≤ w2)) → (9 - w2).toNat < m → sat (f_X_reckons_69 fu k_143 o0 p1 m w2 I0) Q_ := by
  intro m
  induction m with
  | zero => intro w2 I0 _ _ _ h0; exact absurd h0 (Nat.not_lt_zero _)
  | succ m hR_ =>
    intro w2 I0 ⟨aw2, bw2⟩ hRI0 hinv hmeas
    have fI0 := hinv.1; replace hinv := hinv.2
    show sat (fb_X_reckons_69 fu k_143 o0 p1 (f_X_reckons_69 fu k_143 o0 p1 m) w2 I0) Q_
    unfold fb_X_reckons_69
    obtain ⟨ap1, bp1⟩ := qp1
    have hrw0 := rw_fr hrw (fun j => fI0 _ _ (by omega)) (fI0 _ _ (by omega))
    have hr40 := hrw0.2.1
    have hr40a := hrw0.1
    have hr40b : I0 o0 40 = Ib o0 40 := fI0 _ _ (by omega)
    refine sat_ite (fun q_1 => ?_) (fun q_1 => ?_)
    · refine ok_X_reckons_77 (Ib := I0) fu _ o0 p1 w2 hfu ⟨ap1, bp1⟩ ⟨aw2, bw2⟩ (by first | omega | (simp (disch := omega) only [wr32_i2, wdiv_i2, wrem_i2]; omega) | grind | grind [wr32]) (by first | omega | (simp (disch := omega) only [wr32_i2, wdiv_i2, wrem_i2]; omega) | grind | grind [wr32]) ?_ (fun v I h1 h2 h3 => hret v I h1 h2 (by first | exact h3.elim | exact h3.2.elim)) fu 0 I0 (lit_in rfl) hRI0 ⟨(fun _ _ _ => rfl), (by first | omega | (simp (disch := omega) only [wr32_i2, wdiv_i2, wrem_i2]; omega) | grind | grind [wr32])⟩ (by first | omega | (simp (disch := omega) only [wr32_i2, wdiv_i2, wrem_i2]; omega) | grind | grind [wr32])
      · intro I31  hRI31 xI31
        have fI31 := xI31.1; replace xI31 := xI31.2
        refine sat_zl (wr32_in _) (fun x32 hx32 ax32 bx32 => ?_)
        try simp (disch := omega) only [wr32_i2, wdiv_i2, wrem_i2] at hx32
        exact hR_ x32 I31 ⟨ax32, bx32⟩ hRI31 ⟨(by intro q j hq; grind), (by first | omega | (simp (disch := omega) only [wr32_i2, wdiv_i2, wrem_i2]; omega) | grind | grind [wr32])⟩ (by first | omega | (simp (disch := omega) only [wr32_i2, wdiv_i2, wrem_i2]; omega) | grind | grind [wr32])
    · exact hk_143 I0 hRI0 ⟨(by intro q j hq; grind), trivial⟩
theorem ok_X_reckons_63 {Ib : IMem} (fu : Nat) (o0 : Nat) (hfu : 5000000000 < fu) (hrw : RW o0 Ib) {Q_ : Int → IMem → Prop} (hret : ∀ v I, inr v → GX o0 I → ((∀ q j, ¬ (q = o0 + 17) → I q j = Ib q j) ∧ (RW o0 I)) → sat (zr v I) Q_) : ∀ (m : Nat) (w1 : Int) (I0 : IMem), inr w1 → GX o0 I0 → ((∀ q j, ¬ (q = o0 + 17) → I0 q j = Ib q j) ∧ (-1 ≤ w1 ∧ w1 < Ib o0 40)) → (w1 + 1).toNat < m → sat (f_X_reckons_63 fu o0 m w1 I0) Q_ := by
  intro m
  induction m with
  | zero => intro w1 I0 _ _ _ h0; exact absurd h0 (Nat.not_lt_zero _)
  | succ m hR_ =>
    intro w1 I0 ⟨aw1, bw1⟩ hRI0 hinv hmeas
    have fI0 := hinv.1; replace hinv := hinv.2
    show sat (fb_X_reckons_63 fu o0 (f_X_reckons_63 fu o0 m) w1 I0) Q_
    unfold fb_X_reckons_63
    have hrw0 := rw_fr hrw (fun j => fI0 _ _ (by omega)) (fI0 _ _ (by omega))
    have hr40 := hrw0.2.1
    have hr40a := hrw0.1
    have hr40b : I0 o0 40 = Ib o0 40 := fI0 _ _ (by omega)
    refine sat_ite (fun q_1 => ?_) (fun q_1 => ?_)
    · exact hret _ _ (lit_in rfl) hRI0 ⟨(by intro q j hq; exact fI0 q j hq), hrw0⟩
    · refine ok_X_reckons_69 (Ib := I0) fu _ o0 w1 hfu ⟨aw1, bw1⟩ (by first | omega | (simp (disch := omega) only [wr32_i2, wdiv_i2, wrem_i2]; omega) | grind | grind [wr32]) (by first | omega | (simp (disch := omega) only [wr32_i2, wdiv_i2, wrem_i2]; omega) | grind | grind [wr32]) ?_ (fun v I h1 h2 h3 => hret v I h1 h2 (by first | exact h3.elim | exact h3.2.elim)) fu 0 I0 (lit_in rfl) hRI0 ⟨(fun _ _ _ => rfl), (by first | omega | (simp (disch := omega) only [wr32_i2, wdiv_i2, wrem_i2]; omega) | grind | grind [wr32])⟩ (by first | omega | (simp (disch := omega) only [wr32_i2, wdiv_i2, wrem_i2]; omega) | grind | grind [wr32])
      · intro I33  hRI33 xI33
        have fI33 := xI33.1; replace xI33 := xI33.2
        refine sat_zl (wr32_in _) (fun x34 hx34 ax34 bx34 => ?_)
        try simp (disch := omega) only [wr32_i2, wdiv_i2, wrem_i2] at hx34
        exact hR_ x34 I33 ⟨ax34, bx34⟩ hRI33 ⟨(by intro q j hq; grind), (by first | omega | (simp (disch := omega) only [wr32_i2, wdiv_i2, wrem_i2]; omega) | grind | grind [wr32])⟩ (by first | omega | (simp (disch := omega) only [wr32_i2, wdiv_i2, wrem_i2]; omega) | grind | grind [wr32])
theorem ok_X_reckons (fu : Nat) (o0 : Nat) (I0 : IMem) (hfu : 5000000000 < fu) (hRI0 : GX o0 I0) : sat (f_X_reckons fu o0 I0) (fun v I => inr v ∧ GX o0 I ∧ (RW o0 I)) := by
  unfold f_X_reckons
  refine sat_zb (ok_X_laysRow fu o0 I0 hfu hRI0 ) (fun u_1 I2 c_2 ⟨⟨au_1, bu_1⟩, hRI2, pI2⟩ => ?_)
  have fI2 : ∀ q j, ¬ (q = o0 + 16 ∨ (q = o0 ∧ j = 40)) → I2 q j = I0 q j := fc_X_laysRow (fun q j => q = o0 + 16 ∨ (q = o0 ∧ j = 40)) fu o0 I0 (fun _ => by simp) (by simp) c_2
  refine ok_X_reckons_6 (Ib := I2) fu _ o0 hfu (by first | omega | (simp (disch := omega) only [wr32_i2, wdiv_i2, wrem_i2]; omega) | grind | grind [wr32]) ?_ (fun v I h1 h2 h3 => sat_zr ⟨h1, h2, (by first | exact h3.elim | exact h3.2.elim)⟩) fu 0 I2 (lit_in rfl) hRI2 ⟨(fun _ _ _ => rfl), (by first | omega | (simp (disch := omega) only [wr32_i2, wdiv_i2, wrem_i2]; omega) | grind | grind [wr32])⟩ (by first | omega | (simp (disch := omega) only [wr32_i2, wdiv_i2, wrem_i2]; omega) | grind | grind [wr32])
  · intro I14  hRI14 xI14
    have fI14 := xI14.1; replace xI14 := xI14.2
    have hrw14 := rw_fr pI2 (fun j => fI14 _ _ (by omega)) (fI14 _ _ (by omega))
    have hm14 := hrw14.1
    have hm15 := hrw14.2.1
    have ⟨r_3a, r_3b⟩ : -2147483648 ≤ I14 o0 40 ∧ I14 o0 40 < 2147483648 := hRI14.1 o0 40
    refine sat_zl (wr32_in _) (fun x15 hx15 ax15 bx15 => ?_)
    try simp (disch := omega) only [wr32_i2, wdiv_i2, wrem_i2] at hx15
    refine ok_X_reckons_63 (Ib := I14) fu o0 hfu (by first | omega | (simp (disch := omega) only [wr32_i2, wdiv_i2, wrem_i2]; omega) | grind | grind [wr32]) (fun v I h1 h2 h3 => sat_zr ⟨h1, h2, (by first | exact trivial | exact h3 | grind)⟩) fu x15 I14 ⟨ax15, bx15⟩ hRI14 ⟨(fun _ _ _ => rfl), (by first | omega | (simp (disch := omega) only [wr32_i2, wdiv_i2, wrem_i2]; omega) | grind | grind [wr32])⟩ (by first | omega | (simp (disch := omega) only [wr32_i2, wdiv_i2, wrem_i2]; omega) | grind | grind [wr32])
theorem ok_X_best_35 {Ib : IMem} (fu : Nat) (k_88 : Int → IMem → Res) (k_159 : Int → IMem → Res) (o0 : Nat) (p1 : Int) (hfu : 5000000000 < fu) (qp1 : inr p1) (hrw : RW o0 Ib) {Q_ : Int → IMem → Prop} (hk_88 : ∀ (z0 : Int) (I9 : IMem), inr z0 → GX o0 I9 → (I9 = Ib ∧ (0 ≤ z0 ∧ z0 < Ib o0 40)) → sat (k_88 z0 I9) Q_) (hk_159 : ∀ (z0 : Int) (I9 : IMem), inr z0 → GX o0 I9 → (I9 = Ib ∧ (True)) → sat (k_159 z0 I9) Q_) (hret : ∀ v I, inr v → GX o0 I → (I = Ib ∧ (False)) → sat (zr v I) Q_) : ∀ (m : Nat) (w2 : Int) (w3 : Int) (w4 : Int) (w5 : Int) (I0 : IMem), inr w2 → inr w3 → inr w4 → inr w5 → GX o0 I0 → (I0 = Ib ∧ (0 ≤ w2 ∧ w2 ≤ 8 ∧ 0 ≤ w3 ∧ w3 ≤ 3 ∧ 0 ≤ w5)) → (I0 o0 40 - w5).toNat < m → sat (f_X_best_35 fu k_88 k_159 o0 p1 m w2 w3 w4 w5 I0) Q_ := by
  intro m
  induction m with
  | zero => intro w2 w3 w4 w5 I0 _ _ _ _ _ _ h0; exact absurd h0 (Nat.not_lt_zero _)
  | succ m hR_ =>
    intro w2 w3 w4 w5 I0 ⟨aw2, bw2⟩ ⟨aw3, bw3⟩ ⟨aw4, bw4⟩ ⟨aw5, bw5⟩ hRI0 hinv hmeas
    have einv := hinv.1; replace hinv := hinv.2; subst einv
    show sat (fb_X_best_35 fu k_88 k_159 o0 p1 (f_X_best_35 fu k_88 k_159 o0 p1 m) w2 w3 w4 w5 I0) Q_
    unfold fb_X_best_35
    obtain ⟨ap1, bp1⟩ := qp1
    have hr40 := hrw.2.1
    have hrow : w5 < I0 o0 40 → 0 ≤ I0 (o0 + 16) w5.toNat ∧ I0 (o0 + 16) w5.toNat < 240 ∧ 0 ≤ I0 (o0 + 1) (141 + 6 * (I0 (o0 + 16) w5.toNat).toNat) := fun q => by have h := hrw.2.2 w5.toNat (by omega); exact ⟨h.1, h.2, (gx_rows hRI0 (141 + 6 * (I0 (o0 + 16) w5.toNat).toNat) (by omega) (by omega) (by omega)).1⟩
    have ⟨r_1a, r_1b⟩ : -2147483648 ≤ I0 o0 40 ∧ I0 o0 40 < 2147483648 := hRI0.1 o0 40
    refine sat_ite (fun q_2 => ?_) (fun q_2 => ?_)
    · refine sat_zb (ok_X_taking fu o0 w5 w2 w3 I0 hfu hRI0 ⟨aw5, bw5⟩ ⟨aw2, bw2⟩ ⟨aw3, bw3⟩ (by first | omega | (simp (disch := omega) only [wr32_i2, wdiv_i2, wrem_i2]; omega) | grind | grind [wr32]) (by first | omega | (simp (disch := omega) only [wr32_i2, wdiv_i2, wrem_i2]; omega) | grind | grind [wr32])) (fun y5 I6 c_3 ⟨⟨ay5, by5⟩, _, pI6⟩ => ?_)
      have eI6 := pI6.1.symm; replace pI6 := pI6.2; subst eI6
      have hro1 := hrow (by omega)
      refine sat_zj (fun k8 ek8 => ?_)
      have hk8 : ∀ (x10 : Int) (x11 : Int) (x12 : Int) (I9 : IMem), inr x10 → inr x11 → inr x12 → GX o0 I9 → (I9 = I0 ∧ (0 ≤ x10 ∧ x10 ≤ 8 ∧ 0 ≤ x11 ∧ x11 ≤ 3)) → sat (k8 x10 x11 x12 I9) Q_ := by
        intro x10 x11 x12 I9 ⟨ax10, bx10⟩ ⟨ax11, bx11⟩ ⟨ax12, bx12⟩ hRI9 jk8
        subst ek8
        have ejk8 := jk8.1.symm; replace jk8 := jk8.2; subst ejk8
        refine sat_zl (wr32_in _) (fun x13 hx13 ax13 bx13 => ?_)
        try simp (disch := omega) only [wr32_i2, wdiv_i2, wrem_i2] at hx13
        exact hR_ x10 x11 x12 x13 I0 ⟨ax10, bx10⟩ ⟨ax11, bx11⟩ ⟨ax12, bx12⟩ ⟨ax13, bx13⟩ hRI0 ⟨rfl, (by first | omega | (simp (disch := omega) only [wr32_i2, wdiv_i2, wrem_i2]; omega) | grind | grind [wr32])⟩ (by first | omega | (simp (disch := omega) only [wr32_i2, wdiv_i2, wrem_i2]; omega) | grind | grind [wr32])
      clear ek8
      refine sat_ite (fun q_4 => ?_) (fun q_4 => ?_)
      · exact hk8 w2 w3 w4 I0 ⟨aw2, bw2⟩ ⟨aw3, bw3⟩ ⟨aw4, bw4⟩ hRI0 ⟨rfl, (by first | omega | (simp (disch := omega) only [wr32_i2, wdiv_i2, wrem_i2]; omega) | grind | grind [wr32])⟩
      · refine sat_zb (ok_X_spot fu w5 w2 w3 I0 hfu hRI0.1 ⟨aw5, bw5⟩ ⟨aw2, bw2⟩ ⟨aw3, bw3⟩ (by first | omega | (simp (disch := omega) only [wr32_i2, wdiv_i2, wrem_i2]; omega) | grind | grind [wr32])) (fun y14 I15 c_5 ⟨⟨ay14, by14⟩, _, pI15⟩ => ?_)
        have eI15 := pI15.1.symm; replace pI15 := pI15.2; subst eI15
        refine sat_zg (by first | omega | grind | grind [wr32]) (fun g_6 => ?_)
        have ⟨r_7a, r_7b⟩ : -2147483648 ≤ I0 (o0 + 17) y14.toNat ∧ I0 (o0 + 17) y14.toNat < 2147483648 := hRI0.1 (o0 + 17) y14.toNat
        refine sat_ite (fun q_8 => ?_) (fun q_8 => ?_)
        · exact hk8 w2 w3 w4 I0 ⟨aw2, bw2⟩ ⟨aw3, bw3⟩ ⟨aw4, bw4⟩ hRI0 ⟨rfl, (by first | omega | (simp (disch := omega) only [wr32_i2, wdiv_i2, wrem_i2]; omega) | grind | grind [wr32])⟩
        · refine sat_ite (fun q_9 => ?_) (fun q_9 => ?_)
          · try simp (disch := omega) only [wr32_i2, wdiv_i2, wrem_i2] at q_9
            exact hk_88 w5 I0 ⟨aw5, bw5⟩ hRI0 ⟨rfl, (by first | omega | (simp (disch := omega) only [wr32_i2, wdiv_i2, wrem_i2]; omega) | grind | grind [wr32])⟩
          · try simp (disch := omega) only [wr32_i2, wdiv_i2, wrem_i2] at q_9
            refine sat_zl (wr32_in _) (fun x17 hx17 ax17 bx17 => ?_)
            try simp (disch := omega) only [wr32_i2, wdiv_i2, wrem_i2] at hx17
            refine sat_zg (by first | omega | grind | grind [wr32]) (fun g_10 => ?_)
            have ⟨r_12a, r_12b⟩ : -2147483648 ≤ I0 (o0 + 16) w5.toNat ∧ I0 (o0 + 16) w5.toNat < 2147483648 := hRI0.1 (o0 + 16) w5.toNat
            refine sat_zb (ok_X_with fu o0 w3 (I0 (o0 + 16) w5.toNat) I0 hfu hRI0 ⟨aw3, bw3⟩ (hRI0.1 (o0 + 16) w5.toNat) (by first | omega | (simp (disch := omega) only [wr32_i2, wdiv_i2, wrem_i2]; omega) | grind | grind [wr32])) (fun y18 I19 c_11 ⟨⟨ay18, by18⟩, _, pI19⟩ => ?_)
            have eI19 := pI19.1.symm; replace pI19 := pI19.2; subst eI19
            refine sat_zg (by first | omega | grind | grind [wr32]) (fun g_13 => ?_)
            refine sat_zl (wr32_in _) (fun x21 hx21 ax21 bx21 => ?_)
            try simp (disch := omega) only [wr32_i2, wdiv_i2, wrem_i2] at hx21
            have hs21 : I0 (o0 + 1) x21.toNat = I0 (o0 + 1) (141 + 6 * (I0 (o0 + 16) w5.toNat).toNat) := by rw [show x21.toNat = 141 + 6 * (I0 (o0 + 16) w5.toNat).toNat by omega]
            refine sat_zg (by first | omega | grind | grind [wr32]) (fun g_14 => ?_)
            have ⟨r_15a, r_15b⟩ : -2147483648 ≤ I0 (o0 + 1) x21.toNat ∧ I0 (o0 + 1) x21.toNat < 2147483648 := hRI0.1 (o0 + 1) x21.toNat
            try have r_15many := gx_many hRI0 x21.toNat (by omega) (by omega)
            try have r_15seen := gx_seen hRI0 x21.toNat (by omega) (by omega)
            try have r_15part := gx_part hRI0 x21.toNat (by omega) (by omega)
            try have r_15rows := gx_rows hRI0 x21.toNat (by omega) (by omega) (by omega)
            refine sat_zl (wr32_in _) (fun x22 hx22 ax22 bx22 => ?_)
            try simp (disch := omega) only [wr32_i2, wdiv_i2, wrem_i2] at hx22
            exact hk8 x22 y18 x17 I0 ⟨ax22, bx22⟩ ⟨ay18, by18⟩ ⟨ax17, bx17⟩ hRI0 ⟨rfl, (by first | omega | (simp (disch := omega) only [wr32_i2, wdiv_i2, wrem_i2]; omega) | grind | grind [wr32])⟩
    · exact hk_159 w4 I0 ⟨aw4, bw4⟩ hRI0 ⟨rfl, trivial⟩
