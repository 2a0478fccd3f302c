/-! safety of the reference -/
theorem ok_X_parts0_2 {Ib : IMem} (fu : Nat) (k_109 : Int → Int → Int → IMem → Res) (o0 : Nat) (hfu : 5000000000 < fu) {Q_ : Int → IMem → Prop} (hk_109 : ∀ (z0 : Int) (z1 : Int) (z2 : Int) (I9 : IMem), inr z0 → inr z1 → inr z2 → GX o0 I9 → ((∀ q j, ¬ (q = o0 + 7 ∨ (q = o0 + 8 ∧ j = 1) ∨ (q = o0 + 8 ∧ j = 2) ∨ (q = o0 + 8 ∧ j = 3) ∨ (q = o0 + 8 ∧ j = 4) ∨ (q = o0 + 8 ∧ j = 5) ∨ (q = o0 + 8 ∧ j = 6) ∨ (q = o0 + 8 ∧ j = 7) ∨ (q = o0 + 8 ∧ j = 8) ∨ (q = o0 + 8 ∧ j = 9)) → I9 q j = Ib q j) ∧ (True)) → sat (k_109 z0 z1 z2 I9) Q_) (hret : ∀ v I, inr v → GX o0 I → ((∀ q j, ¬ (q = o0 + 7 ∨ (q = o0 + 8 ∧ j = 1) ∨ (q = o0 + 8 ∧ j = 2) ∨ (q = o0 + 8 ∧ j = 3) ∨ (q = o0 + 8 ∧ j = 4) ∨ (q = o0 + 8 ∧ j = 5) ∨ (q = o0 + 8 ∧ j = 6) ∨ (q = o0 + 8 ∧ j = 7) ∨ (q = o0 + 8 ∧ j = 8) ∨ (q = o0 + 8 ∧ j = 9)) → I q j = Ib q j) ∧ (True)) → sat (zr v I) Q_) : ∀ (m : Nat) (w1 : Int) (I0 : IMem), inr w1 → GX o0 I0 → ((∀ q j, ¬ (q = o0 + 7 ∨ (q = o0 + 8 ∧ j = 1) ∨ (q = o0 + 8 ∧ j = 2) ∨ (q = o0 + 8 ∧ j = 3) ∨ (q = o0 + 8 ∧ j = 4) ∨ (q = o0 + 8 ∧ j = 5) ∨ (q = o0 + 8 ∧ j = 6) ∨ (q = o0 + 8 ∧ j = 7) ∨ (q = o0 + 8 ∧ j = 8) ∨ (q = o0 + 8 ∧ j = 9)) → I0 q j = Ib q j) ∧ (0 ≤ w1)) → (6 - w1).toNat < m → sat (f_X_parts0_2 fu k_109 o0 m w1 I0) Q_ := by
  intro m
  induction m with
  | zero => intro w1 I0 _ _ _ h0; exact absurd h0 (Nat.not_lt_zero _)
  | succ m hR_ =>
    intro w1 I0 ⟨aw1, bw1⟩ hRI0 hinv hmeas
    have fI0 := hinv.1; replace hinv := hinv.2
    show sat (fb_X_parts0_2 fu k_109 o0 (f_X_parts0_2 fu k_109 o0 m) w1 I0) Q_
    unfold fb_X_parts0_2
    refine sat_ite (fun q_1 => ?_) (fun q_1 => ?_)
    · have ⟨r_2a, r_2b⟩ : -2147483648 ≤ I0 o0 33 ∧ I0 o0 33 < 2147483648 := hRI0.1 o0 33
      refine sat_ite (fun q_3 => ?_) (fun q_3 => ?_)
      · refine ok_X_parts0_17 (Ib := I0) fu _ _ o0 w1 hfu ⟨aw1, bw1⟩ ?_ ?_ (fun v I h1 h2 h3 => hret v I h1 h2 (by first | exact h3.elim | exact h3.2.elim)) fu 0 I0 (lit_in rfl) hRI0 ⟨(fun _ _ _ => rfl), (by first | omega | (simp (disch := omega) only [wr32_i2, wdiv_i2, wrem_i2]; omega) | grind | grind [wr32])⟩ (by first | omega | (simp (disch := omega) only [wr32_i2, wdiv_i2, wrem_i2]; omega) | grind | grind [wr32])
        · intro x24 x25 I23 ⟨ax24, bx24⟩ ⟨ax25, bx25⟩ hRI23 xI23
          have fI23 := xI23.1; replace xI23 := xI23.2
          exact hk_109 w1 x24 x25 I23 ⟨aw1, bw1⟩ ⟨ax24, bx24⟩ ⟨ax25, bx25⟩ hRI23 ⟨(by intro q j hq; grind), trivial⟩
        · intro I26  hRI26 xI26
          have fI26 := xI26.1; replace xI26 := xI26.2
          refine sat_zl (wr32_in _) (fun x27 hx27 ax27 bx27 => ?_)
          try simp (disch := omega) only [wr32_i2, wdiv_i2, wrem_i2] at hx27
          exact hR_ x27 I26 ⟨ax27, bx27⟩ hRI26 ⟨(by intro q j hq; grind), (by first | omega | (simp (disch := omega) only [wr32_i2, wdiv_i2, wrem_i2]; omega) | grind | grind [wr32])⟩ (by first | omega | (simp (disch := omega) only [wr32_i2, wdiv_i2, wrem_i2]; omega) | grind | grind [wr32])
      · exact hret _ _ (lit_in rfl) hRI0 ⟨(by intro q j hq; grind), trivial⟩
    · exact hret _ _ (lit_in rfl) hRI0 ⟨(by intro q j hq; grind), trivial⟩
theorem ok_X_parts0 (fu : Nat) (o0 : Nat) (I0 : IMem) (hfu : 5000000000 < fu) (hRI0 : GX o0 I0) : sat (f_X_parts0 fu o0 I0) (fun v I => inr v ∧ GX o0 I ∧ (True)) := by
  unfold f_X_parts0
  refine ok_X_parts0_2 (Ib := I0) fu _ o0 hfu ?_ (fun v I h1 h2 h3 => sat_zr ⟨h1, h2, (by first | exact trivial | exact h3 | grind)⟩) fu 0 I0 (lit_in rfl) hRI0 ⟨(fun _ _ _ => rfl), (by first | omega | (simp (disch := omega) only [wr32_i2, wdiv_i2, wrem_i2]; omega) | grind | grind [wr32])⟩ (by first | omega | (simp (disch := omega) only [wr32_i2, wdiv_i2, wrem_i2]; omega) | grind | grind [wr32])
  · intro x29 x30 x31 I28 ⟨ax29, bx29⟩ ⟨ax30, bx30⟩ ⟨ax31, bx31⟩ hRI28 xI28
    have fI28 := xI28.1; replace xI28 := xI28.2
    refine sat_zb (ok_X_partOf fu o0 x31 I28 hfu hRI28 ⟨ax31, bx31⟩ (by first | omega | (simp (disch := omega) only [wr32_i2, wdiv_i2, wrem_i2]; omega) | grind | grind [wr32])) (fun y32 I33 c_1 ⟨⟨ay32, by32⟩, _, pI33⟩ => ?_)
    have eI33 := pI33.1.symm; replace pI33 := pI33.2; subst eI33
    refine sat_zb (ok_X_takes fu o0 x29 x30 y32 I28 hfu hRI28 ⟨ax29, bx29⟩ ⟨ax30, bx30⟩ ⟨ay32, by32⟩ (by first | omega | (simp (disch := omega) only [wr32_i2, wdiv_i2, wrem_i2]; omega) | grind | grind [wr32])) (fun u_2 I36 c_3 ⟨⟨au_2, bu_2⟩, hRI36, pI36⟩ => ?_)
    have fI36 : ∀ q j, ¬ (q = o0 + 9 ∨ q = o0 + 11 ∨ (q = o0 ∧ j = 30) ∨ (q = o0 ∧ j = 31) ∨ (q = o0 ∧ j = 33) ∨ (q = o0 ∧ j = 34)) → I36 q j = I28 q j := fc_X_takes (fun q j => q = o0 + 9 ∨ q = o0 + 11 ∨ (q = o0 ∧ j = 30) ∨ (q = o0 ∧ j = 31) ∨ (q = o0 ∧ j = 33) ∨ (q = o0 ∧ j = 34)) fu o0 x29 x30 y32 I28 (fun _ => by simp) (fun _ => by simp) (by simp) (by simp) (by simp) (by simp) c_3
    exact sat_zr ⟨(lit_in rfl), hRI36, trivial⟩
