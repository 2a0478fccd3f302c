/-! safety of the reference -/
theorem ok_X_parts0_2 {Ib : IMem} (fu : Nat) (k_109 : Int → Int → Int → IMem → Res) (o0 : Nat) (hfu : 5000000000 < fu) {Q_ : Int → IMem → Prop} (hk_109 : ∀ (z0 : Int) (z1 : Int) (z2 : Int) (I9 : IMem), inr z0 → inr z1 → inr z2 → GX o0 I9 → ((∀ q j, ¬ (q = o0 + 7 ∨ (q = o0 + 8 ∧ j = 1) ∨ (q = o0 + 8 ∧ j = 2) ∨ (q = o0 + 8 ∧ j = 3) ∨ (q = o0 + 8 ∧ j = 4) ∨ (q = o0 + 8 ∧ j = 5) ∨ (q = o0 + 8 ∧ j = 6) ∨ (q = o0 + 8 ∧ j = 7) ∨ (q = o0 + 8 ∧ j = 8) ∨ (q = o0 + 8 ∧ j = 9)) → I9 q j = Ib q j) ∧ (0 ≤ z0 ∧ z0 < 6 ∧ K9 o0 Ib z0 z1 z2)) → sat (k_109 z0 z1 z2 I9) Q_) (hret : ∀ v I, inr v → GX o0 I → ((∀ q j, ¬ (q = o0 + 7 ∨ (q = o0 + 8 ∧ j = 1) ∨ (q = o0 + 8 ∧ j = 2) ∨ (q = o0 + 8 ∧ j = 3) ∨ (q = o0 + 8 ∧ j = 4) ∨ (q = o0 + 8 ∧ j = 5) ∨ (q = o0 + 8 ∧ j = 6) ∨ (q = o0 + 8 ∧ j = 7) ∨ (q = o0 + 8 ∧ j = 8) ∨ (q = o0 + 8 ∧ j = 9)) → I q j = Ib q j) ∧ (FV o0 Ib → FS o0 I)) → sat (zr v I) Q_) : ∀ (m : Nat) (w1 : Int) (I0 : IMem), inr w1 → GX o0 I0 → ((∀ q j, ¬ (q = o0 + 7 ∨ (q = o0 + 8 ∧ j = 1) ∨ (q = o0 + 8 ∧ j = 2) ∨ (q = o0 + 8 ∧ j = 3) ∨ (q = o0 + 8 ∧ j = 4) ∨ (q = o0 + 8 ∧ j = 5) ∨ (q = o0 + 8 ∧ j = 6) ∨ (q = o0 + 8 ∧ j = 7) ∨ (q = o0 + 8 ∧ j = 8) ∨ (q = o0 + 8 ∧ j = 9)) → I0 q j = Ib q j) ∧ (0 ≤ w1)) → (6 - w1).toNat < m → sat (f_X_parts0_2 fu k_109 o0 m w1 I0) Q_ := by
  intro m
  induction m with
  | zero => intro w1 I0 _ _ _ h0; exact absurd h0 (Nat.not_lt_zero _)
  | succ m hR_ =>
    intro w1 I0 ⟨aw1, bw1⟩ hRI0 hinv hmeas
    have fI0 := hinv.1; replace hinv := hinv.2
    show sat (fb_X_parts0_2 fu k_109 o0 (f_X_parts0_2 fu k_109 o0 m) w1 I0) Q_
    unfold fb_X_parts0_2
    refine sat_ite (fun q_1 => ?_) (fun q_1 => ?_)
    · have ⟨r_2a, r_2b⟩ : -2147483648 ≤ I0 o0 33 ∧ I0 o0 33 < 2147483648 := hRI0.1 o0 33
      refine sat_ite (fun q_3 => ?_) (fun q_3 => ?_)
      · refine ok_X_parts0_17 (Ib := I0) fu _ _ o0 w1 hfu ⟨aw1, bw1⟩ (by first | omega | (simp (disch := omega) only [wr32_i2, wdiv_i2, wrem_i2]; omega) | grind | grind [wr32]) ?_ ?_ (fun v I h1 h2 h3 => hret v I h1 h2 (by first | exact h3.elim | exact h3.2.elim)) fu 0 I0 (lit_in rfl) hRI0 ⟨(fun _ _ _ => rfl), (by first | omega | (simp (disch := omega) only [wr32_i2, wdiv_i2, wrem_i2]; omega) | grind | grind [wr32])⟩ (by first | omega | (simp (disch := omega) only [wr32_i2, wdiv_i2, wrem_i2]; omega) | grind | grind [wr32])
        · intro x24 x25 I23 ⟨ax24, bx24⟩ ⟨ax25, bx25⟩ hRI23 xI23
          have fI23 := xI23.1; replace xI23 := xI23.2
          exact hk_109 w1 x24 x25 I23 ⟨aw1, bw1⟩ ⟨ax24, bx24⟩ ⟨ax25, bx25⟩ hRI23 ⟨(by intro q j hq; grind), ⟨by omega, by omega, k9_fr xI23 (fun q j h7 h8 => (fI0 q j (by omega)).symm)⟩⟩
        · intro I26  hRI26 xI26
          have fI26 := xI26.1; replace xI26 := xI26.2
          refine sat_zl (wr32_in _) (fun x27 hx27 ax27 bx27 => ?_)
          try simp (disch := omega) only [wr32_i2, wdiv_i2, wrem_i2] at hx27
          exact hR_ x27 I26 ⟨ax27, bx27⟩ hRI26 ⟨(by intro q j hq; grind), (by first | omega | (simp (disch := omega) only [wr32_i2, wdiv_i2, wrem_i2]; omega) | grind | grind [wr32])⟩ (by first | omega | (simp (disch := omega) only [wr32_i2, wdiv_i2, wrem_i2]; omega) | grind | grind [wr32])
      · exact hret _ _ (lit_in rfl) hRI0 ⟨(by intro q j hq; exact fI0 q j hq), fun h => (fv_fr h (fun q j h7 h8 => fI0 q j (by omega))).1.1⟩
    · exact hret _ _ (lit_in rfl) hRI0 ⟨(by intro q j hq; exact fI0 q j hq), fun h => (fv_fr h (fun q j h7 h8 => fI0 q j (by omega))).1.1⟩
theorem ok_X_parts0 (fu : Nat) (o0 : Nat) (I0 : IMem) (hfu : 5000000000 < fu) (hRI0 : GX o0 I0) (h0 : FV o0 I0) : sat (f_X_parts0 fu o0 I0) (fun v I => inr v ∧ GX o0 I ∧ (FS o0 I)) := by
  unfold f_X_parts0
  refine ok_X_parts0_2 (Ib := I0) fu _ o0 hfu ?_ (fun v I h1 h2 h3 => sat_zr ⟨h1, h2, (by first | exact trivial | exact h3 | grind)⟩) fu 0 I0 (lit_in rfl) hRI0 ⟨(fun _ _ _ => rfl), (by first | omega | (simp (disch := omega) only [wr32_i2, wdiv_i2, wrem_i2]; omega) | grind | grind [wr32])⟩ (by first | omega | (simp (disch := omega) only [wr32_i2, wdiv_i2, wrem_i2]; omega) | grind | grind [wr32])
  · intro x29 x30 x31 I28 ⟨ax29, bx29⟩ ⟨ax30, bx30⟩ ⟨ax31, bx31⟩ hRI28 xI28
    have fI28 := xI28.1; replace xI28 := xI28.2
    obtain ⟨hka, hkb, hkc, hkd, hke, hkf⟩ := k9_fr xI28.2.2 (fun q j h7 h8 => fI28 q j (by omega))
    have hfv28 := (fv_fr h0 (fun q j h7 h8 => fI28 q j (by omega))).1
    have hro := fv_room hfv28 hkd hke (by omega)
    refine sat_zb (ok_X_partOf fu o0 x31 I28 hfu hRI28 ⟨ax31, bx31⟩ (by first | omega | (simp (disch := omega) only [wr32_i2, wdiv_i2, wrem_i2]; omega) | grind | grind [wr32])) (fun y32 I33 c_1 ⟨⟨ay32, by32⟩, _, pI33⟩ => ?_)
    have eI33 := pI33.1.symm; replace pI33 := pI33.2; subst eI33
    refine sat_zb (ok_X_takes fu o0 x29 x30 y32 I28 hfu hRI28 ⟨ax29, bx29⟩ ⟨ax30, bx30⟩ ⟨ay32, by32⟩ (by first | omega | (simp (disch := omega) only [wr32_i2, wdiv_i2, wrem_i2]; omega) | grind | grind [wr32])) (fun u_2 I36 c_3 ⟨⟨au_2, bu_2⟩, hRI36, pI36⟩ => ?_)
    have fI36 : ∀ q j, ¬ (q = o0 + 9 ∨ q = o0 + 11 ∨ (q = o0 ∧ j = 30) ∨ (q = o0 ∧ j = 31) ∨ (q = o0 ∧ j = 33) ∨ (q = o0 ∧ j = 34)) → I36 q j = I28 q j := fc_X_takes (fun q j => q = o0 + 9 ∨ q = o0 + 11 ∨ (q = o0 ∧ j = 30) ∨ (q = o0 ∧ j = 31) ∨ (q = o0 ∧ j = 33) ∨ (q = o0 ∧ j = 34)) fu o0 x29 x30 y32 I28 (fun _ => by simp) (fun _ => by simp) (by simp) (by simp) (by simp) (by simp) c_3
    exact sat_zr ⟨(lit_in rfl), hRI36, (fs_take (x := 40 * x29 + x30) (v := y32) hfv28.1 (by omega) ⟨by omega, by omega⟩ ⟨by omega, by rw [show 141 + 6 * (40 * x29 + x30).toNat = (141 + 6 * (40 * x29 + x30)).toNat by omega, ← hkc]; omega, by omega⟩ (fun k => fI36 _ _ (by omega)) pI36.2.2.1 (fun k => fI36 _ _ (by omega)) pI36.2.2.2 pI36.1 (fI36 _ _ (by omega)))⟩
theorem ok_X_fills_4 {Ib : IMem} (fu : Nat) (k_39 : IMem → Res) (o0 : Nat) (hfu : 5000000000 < fu) {Q_ : Int → IMem → Prop} (hk_39 : ∀ (I9 : IMem), GX o0 I9 → ((∀ q j, ¬ (q = o0 + 7 ∨ q = o0 + 9 ∨ q = o0 + 10 ∨ q = o0 + 11 ∨ q = o0 + 12 ∨ (q = o0 ∧ j = 30) ∨ (q = o0 ∧ j = 31) ∨ (q = o0 ∧ j = 32) ∨ (q = o0 ∧ j = 33) ∨ (q = o0 ∧ j = 34) ∨ (q = o0 + 1 ∧ j = 75) ∨ (q = o0 + 8 ∧ j = 1) ∨ (q = o0 + 8 ∧ j = 2) ∨ (q = o0 + 8 ∧ j = 3) ∨ (q = o0 + 8 ∧ j = 4) ∨ (q = o0 + 8 ∧ j = 5) ∨ (q = o0 + 8 ∧ j = 6) ∨ (q = o0 + 8 ∧ j = 7) ∨ (q = o0 + 8 ∧ j = 8) ∨ (q = o0 + 8 ∧ j = 9)) → I9 q j = Ib q j) ∧ (FV o0 I9 ∧ ∀ j : Nat, j ≠ 75 → I9 (o0 + 1) j = Ib (o0 + 1) j)) → sat (k_39 I9) Q_) (hret : ∀ v I, inr v → GX o0 I → ((∀ q j, ¬ (q = o0 + 7 ∨ q = o0 + 9 ∨ q = o0 + 10 ∨ q = o0 + 11 ∨ q = o0 + 12 ∨ (q = o0 ∧ j = 30) ∨ (q = o0 ∧ j = 31) ∨ (q = o0 ∧ j = 32) ∨ (q = o0 ∧ j = 33) ∨ (q = o0 ∧ j = 34) ∨ (q = o0 + 1 ∧ j = 75) ∨ (q = o0 + 8 ∧ j = 1) ∨ (q = o0 + 8 ∧ j = 2) ∨ (q = o0 + 8 ∧ j = 3) ∨ (q = o0 + 8 ∧ j = 4) ∨ (q = o0 + 8 ∧ j = 5) ∨ (q = o0 + 8 ∧ j = 6) ∨ (q = o0 + 8 ∧ j = 7) ∨ (q = o0 + 8 ∧ j = 8) ∨ (q = o0 + 8 ∧ j = 9)) → I q j = Ib q j) ∧ (False)) → sat (zr v I) Q_) : ∀ (m : Nat) (I0 : IMem), GX o0 I0 → ((∀ q j, ¬ (q = o0 + 7 ∨ q = o0 + 9 ∨ q = o0 + 10 ∨ q = o0 + 11 ∨ q = o0 + 12 ∨ (q = o0 ∧ j = 30) ∨ (q = o0 ∧ j = 31) ∨ (q = o0 ∧ j = 32) ∨ (q = o0 ∧ j = 33) ∨ (q = o0 ∧ j = 34) ∨ (q = o0 + 1 ∧ j = 75) ∨ (q = o0 + 8 ∧ j = 1) ∨ (q = o0 + 8 ∧ j = 2) ∨ (q = o0 + 8 ∧ j = 3) ∨ (q = o0 + 8 ∧ j = 4) ∨ (q = o0 + 8 ∧ j = 5) ∨ (q = o0 + 8 ∧ j = 6) ∨ (q = o0 + 8 ∧ j = 7) ∨ (q = o0 + 8 ∧ j = 8) ∨ (q = o0 + 8 ∧ j = 9)) → I0 q j = Ib q j) ∧ (FV o0 I0 ∧ ∀ j : Nat, j ≠ 75 → I0 (o0 + 1) j = Ib (o0 + 1) j)) → (240 - cnt (mk o0 I0) 240).toNat < m → sat (f_X_fills_4 fu k_39 o0 m I0) Q_ := by
  intro m
  induction m with
  | zero => intro I0 _ _ h0; exact absurd h0 (Nat.not_lt_zero _)
  | succ m hR_ =>
    intro I0 hRI0 hinv hmeas
    have fI0 := hinv.1; replace hinv := hinv.2
    show sat (fb_X_fills_4 fu k_39 o0 (f_X_fills_4 fu k_39 o0 m) I0) Q_
    unfold fb_X_fills_4
    refine sat_zj (fun k4 ek4 => ?_)
    have hk4 : ∀ (x6 : Int) (I5 : IMem), inr x6 → GX o0 I5 → ((∀ q j, ¬ (q = o0 + 7 ∨ (q = o0 + 8 ∧ j = 1) ∨ (q = o0 + 8 ∧ j = 2) ∨ (q = o0 + 8 ∧ j = 3) ∨ (q = o0 + 8 ∧ j = 4) ∨ (q = o0 + 8 ∧ j = 5) ∨ (q = o0 + 8 ∧ j = 6) ∨ (q = o0 + 8 ∧ j = 7) ∨ (q = o0 + 8 ∧ j = 8) ∨ (q = o0 + 8 ∧ j = 9)) → I5 q j = I0 q j) ∧ (OB o0 I0 x6)) → sat (k4 x6 I5) Q_ := by
      intro x6 I5 ⟨ax6, bx6⟩ hRI5 jk4
      subst ek4
      have fI5 := jk4.1; replace jk4 := jk4.2
      refine sat_zj (fun k7 ek7 => ?_)
      have hk7 : ∀ (x9 : Int) (I8 : IMem), inr x9 → GX o0 I8 → ((∀ q j, ¬ (q = o0 + 7 ∨ (q = o0 + 8 ∧ j = 1) ∨ (q = o0 + 8 ∧ j = 2) ∨ (q = o0 + 8 ∧ j = 3) ∨ (q = o0 + 8 ∧ j = 4) ∨ (q = o0 + 8 ∧ j = 5) ∨ (q = o0 + 8 ∧ j = 6) ∨ (q = o0 + 8 ∧ j = 7) ∨ (q = o0 + 8 ∧ j = 8) ∨ (q = o0 + 8 ∧ j = 9)) → I8 q j = I5 q j) ∧ (OB o0 I0 x9)) → sat (k7 x9 I8) Q_ := by
        intro x9 I8 ⟨ax9, bx9⟩ hRI8 jk7
        subst ek7
        have fI8 := jk7.1; replace jk7 := jk7.2
        refine sat_ite (fun q_1 => ?_) (fun q_1 => ?_)
        · exact hk_39 I8 hRI8 ⟨(by intro q j hq; grind), (by have hf8 : ∀ q j, q ≠ o0 + 7 → q ≠ o0 + 8 → I8 q j = I0 q j := fun q j h7 h8 => (fI8 q j (by omega)).trans (fI5 q j (by omega)); exact ⟨(fv_fr hinv.1 hf8).1, fun j hj => (hf8 _ _ (by omega) (by omega)).trans (hinv.2 j hj)⟩)⟩
        · have hf8 : ∀ q j, q ≠ o0 + 7 → q ≠ o0 + 8 → I8 q j = I0 q j := fun q j h7 h8 => (fI8 q j (by omega)).trans (fI5 q j (by omega))
          have hfv8 := fv_fr hinv.1 hf8
          have hok9 := jk7.resolve_left q_1
          have hfv9 : I8 (o0 + 9) x9.toNat = 0 ∧ I8 (o0 + 12) x9.toNat = 0 := ⟨(hf8 _ _ (by omega) (by omega)).trans hok9.2.2.2.1, (hf8 _ _ (by omega) (by omega)).trans hok9.2.2.2.2⟩
          have hro := fv_room hfv8.1 hfv9.1 hfv9.2 (by omega)
          refine sat_zl (wdiv_in _ _) (fun x10 hx10 ax10 bx10 => ?_)
          try simp (disch := omega) only [wr32_i2, wdiv_i2, wrem_i2] at hx10
          refine sat_zl (wrem_in _ _) (fun x11 hx11 ax11 bx11 => ?_)
          try simp (disch := omega) only [wr32_i2, wdiv_i2, wrem_i2] at hx11
          have e9 : 40 * x10 + x11 = x9 := by omega
          have hmn : x11 < I8 (o0 + 1) (130 + x10).toNat := by rw [hf8 _ _ (by omega) (by omega), show 130 + x10 = 130 + x9 / 40 by omega, show x11 = x9 % 40 by omega]; exact hok9.2.2.1
          refine sat_zb (ok_X_of fu o0 x10 x11 1 I8 hfu hRI8 ⟨ax10, bx10⟩ ⟨ax11, bx11⟩ (lit_in rfl) (by first | omega | (simp (disch := omega) only [wr32_i2, wdiv_i2, wrem_i2]; omega) | grind | grind [wr32])) (fun y12 I13 c_2 ⟨⟨ay12, by12⟩, _, pI13⟩ => ?_)
          have eI13 := pI13.1.symm; replace pI13 := pI13.2; subst eI13
          have hsy12 := pI13.2 rfl hmn
          have hcy12 : y12 = I8 (o0 + 1) (141 + 6 * x9.toNat) := by rw [pI13.1, show (140 + 6 * (40 * x10 + x11) + 1).toNat = 141 + 6 * x9.toNat by omega]
          have ⟨r_3a, r_3b⟩ : -2147483648 ≤ I8 o0 30 ∧ I8 o0 30 < 2147483648 := hRI8.1 o0 30
          refine sat_ite (fun q_4 => ?_) (fun q_4 => ?_)
          · refine sat_zg (by first | omega | grind | grind [wr32]) (fun g_5 => ?_)
            refine sat_zwXn (c := 12) hRI8 (lit_in rfl) (by decide) (Or.inl (by decide)) (fun I21 eI21 hRI21 => ?_)
            have ⟨r_6a, r_6b⟩ : -2147483648 ≤ I21 o0 32 ∧ I21 o0 32 < 2147483648 := hRI21.1 o0 32
            refine sat_zl (hRI21.1 o0 32) (fun x23 hx23 ax23 bx23 => ?_)
            refine sat_zg (by first | omega | grind | grind [wr32]) (fun g_7 => ?_)
            refine sat_zwXn (c := 10) hRI21 ⟨ax9, bx9⟩ (by decide) (Or.inl (by decide)) (fun I22 eI22 hRI22 => ?_)
            have ⟨r_8a, r_8b⟩ : -2147483648 ≤ I22 o0 32 ∧ I22 o0 32 < 2147483648 := hRI22.1 o0 32
            refine sat_zwX0 hRI22 (wr32_in _) (by first | omega | (simp (disch := omega) only [wr32_i2, wdiv_i2, wrem_i2]; omega) | grind | grind [wr32]) (fun I24 eI24 hRI24 => ?_)
            have ⟨r_9a, r_9b⟩ : -2147483648 ≤ I24 (o0 + 1) 75 ∧ I24 (o0 + 1) 75 < 2147483648 := hRI24.1 (o0 + 1) 75
            refine sat_zwX1 hRI24 (wr32_in _) (cw_lit rfl) (fun I25 eI25 hRI25 => ?_)
            have hff := fv_found4 (x := x9) hfv8.1 (by omega) hfv9.1 hfv9.2 (by rw [← hcy12]; omega) hx23 eI21 eI22 eI24 eI25
            have hcn := hff.1.2
            have hcn8 := hfv8.2
            exact hR_ I25 hRI25 ⟨(by intro q j hq; grind), (by first | exact ⟨hff.1.1, fun j hj => (hff.2 j hj).trans ((hf8 _ _ (by omega) (by omega)).trans (hinv.2 j hj))⟩ | exact ⟨hft.1, fun j hj => (fI19 _ _ (by omega)).trans ((hf8 _ _ (by omega) (by omega)).trans (hinv.2 j hj))⟩)⟩ (by first | omega | (simp (disch := omega) only [wr32_i2, wdiv_i2, wrem_i2]; omega) | grind | grind [wr32])
          · refine sat_zb (ok_X_of fu o0 x10 x11 1 I8 hfu hRI8 ⟨ax10, bx10⟩ ⟨ax11, bx11⟩ (lit_in rfl) (by first | omega | (simp (disch := omega) only [wr32_i2, wdiv_i2, wrem_i2]; omega) | grind | grind [wr32])) (fun y15 I16 c_10 ⟨⟨ay15, by15⟩, _, pI16⟩ => ?_)
            have eI16 := pI16.1.symm; replace pI16 := pI16.2; subst eI16
            have hsy15 := pI16.2 rfl hmn
            have hcy15 : y15 = I8 (o0 + 1) (141 + 6 * x9.toNat) := by rw [pI16.1, show (140 + 6 * (40 * x10 + x11) + 1).toNat = 141 + 6 * x9.toNat by omega]
            refine sat_zb (ok_X_takes fu o0 x10 x11 y15 I8 hfu hRI8 ⟨ax10, bx10⟩ ⟨ax11, bx11⟩ ⟨ay15, by15⟩ (by first | omega | (simp (disch := omega) only [wr32_i2, wdiv_i2, wrem_i2]; omega) | grind | grind [wr32])) (fun u_11 I19 c_12 ⟨⟨au_11, bu_11⟩, hRI19, pI19⟩ => ?_)
            have fI19 : ∀ q j, ¬ (q = o0 + 9 ∨ q = o0 + 11 ∨ (q = o0 ∧ j = 30) ∨ (q = o0 ∧ j = 31) ∨ (q = o0 ∧ j = 33) ∨ (q = o0 ∧ j = 34)) → I19 q j = I8 q j := fc_X_takes (fun q j => q = o0 + 9 ∨ q = o0 + 11 ∨ (q = o0 ∧ j = 30) ∨ (q = o0 ∧ j = 31) ∨ (q = o0 ∧ j = 33) ∨ (q = o0 ∧ j = 34)) fu o0 x10 x11 y15 I8 (fun _ => by simp) (fun _ => by simp) (by simp) (by simp) (by simp) (by simp) c_12
            rw [e9] at pI19
            have hft := fv_take (x := x9) (v := y15) hfv8.1 (by omega) hfv9.1 hfv9.2 ⟨by omega, by omega, by omega, by omega⟩ (fun k => fI19 _ _ (by omega)) pI19.2.2.1 (fun k => fI19 _ _ (by omega)) pI19.2.2.2 (fun k => fI19 _ _ (by omega)) (pI19.2.1.trans (wr32_i2 (by omega) (by omega))) pI19.1 (fI19 _ _ (by omega))
            have hcn := hft.2
            have hcn8 := hfv8.2
            exact hR_ I19 hRI19 ⟨(by intro q j hq; grind), (by first | exact ⟨hff.1.1, fun j hj => (hff.2 j hj).trans ((hf8 _ _ (by omega) (by omega)).trans (hinv.2 j hj))⟩ | exact ⟨hft.1, fun j hj => (fI19 _ _ (by omega)).trans ((hf8 _ _ (by omega) (by omega)).trans (hinv.2 j hj))⟩)⟩ (by first | omega | (simp (disch := omega) only [wr32_i2, wdiv_i2, wrem_i2]; omega) | grind | grind [wr32])
      clear ek7
      refine sat_ite (fun q_13 => ?_) (fun q_13 => ?_)
      · refine sat_zb (ok_X_finds fu o0 0 I5 hfu hRI5 (lit_in rfl)) (fun y26 I27 c_14 ⟨⟨ay26, by26⟩, hRI27, pI27⟩ => ?_)
        have fI27 : ∀ q j, ¬ (q = o0 + 7 ∨ (q = o0 + 8 ∧ j = 1) ∨ (q = o0 + 8 ∧ j = 2) ∨ (q = o0 + 8 ∧ j = 3) ∨ (q = o0 + 8 ∧ j = 4) ∨ (q = o0 + 8 ∧ j = 5) ∨ (q = o0 + 8 ∧ j = 6) ∨ (q = o0 + 8 ∧ j = 7) ∨ (q = o0 + 8 ∧ j = 8) ∨ (q = o0 + 8 ∧ j = 9)) → I27 q j = I5 q j := fc_X_finds (fun q j => q = o0 + 7 ∨ (q = o0 + 8 ∧ j = 1) ∨ (q = o0 + 8 ∧ j = 2) ∨ (q = o0 + 8 ∧ j = 3) ∨ (q = o0 + 8 ∧ j = 4) ∨ (q = o0 + 8 ∧ j = 5) ∨ (q = o0 + 8 ∧ j = 6) ∨ (q = o0 + 8 ∧ j = 7) ∨ (q = o0 + 8 ∧ j = 8) ∨ (q = o0 + 8 ∧ j = 9)) fu o0 0 I5 (fun _ => by simp) (by simp) (by simp) (by simp) (by simp) (by simp) (by simp) (by simp) (by simp) (by simp) c_14
        exact hk7 y26 I27 ⟨ay26, by26⟩ hRI27 ⟨(by intro q j hq; grind), (by first | exact jk4 | exact ob_fr pI27 (fun q j h7 h8 => (fI5 q j (by omega)).symm))⟩
      · exact hk7 x6 I5 ⟨ax6, bx6⟩ hRI5 ⟨(by intro q j hq; grind), (by first | exact jk4 | exact ob_fr pI27 (fun q j h7 h8 => (fI5 q j (by omega)).symm))⟩
    clear ek4
    have ⟨r_15a, r_15b⟩ : -2147483648 ≤ I0 (o0 + 1) 5 ∧ I0 (o0 + 1) 5 < 2147483648 := hRI0.1 (o0 + 1) 5
    refine sat_ite (fun q_16 => ?_) (fun q_16 => ?_)
    · refine sat_zb (ok_X_finds fu o0 1 I0 hfu hRI0 (lit_in rfl)) (fun y29 I30 c_17 ⟨⟨ay29, by29⟩, hRI30, pI30⟩ => ?_)
      have fI30 : ∀ q j, ¬ (q = o0 + 7 ∨ (q = o0 + 8 ∧ j = 1) ∨ (q = o0 + 8 ∧ j = 2) ∨ (q = o0 + 8 ∧ j = 3) ∨ (q = o0 + 8 ∧ j = 4) ∨ (q = o0 + 8 ∧ j = 5) ∨ (q = o0 + 8 ∧ j = 6) ∨ (q = o0 + 8 ∧ j = 7) ∨ (q = o0 + 8 ∧ j = 8) ∨ (q = o0 + 8 ∧ j = 9)) → I30 q j = I0 q j := fc_X_finds (fun q j => q = o0 + 7 ∨ (q = o0 + 8 ∧ j = 1) ∨ (q = o0 + 8 ∧ j = 2) ∨ (q = o0 + 8 ∧ j = 3) ∨ (q = o0 + 8 ∧ j = 4) ∨ (q = o0 + 8 ∧ j = 5) ∨ (q = o0 + 8 ∧ j = 6) ∨ (q = o0 + 8 ∧ j = 7) ∨ (q = o0 + 8 ∧ j = 8) ∨ (q = o0 + 8 ∧ j = 9)) fu o0 1 I0 (fun _ => by simp) (by simp) (by simp) (by simp) (by simp) (by simp) (by simp) (by simp) (by simp) (by simp) c_17
      exact hk4 y29 I30 ⟨ay29, by29⟩ hRI30 ⟨(by intro q j hq; grind), (by first | exact Or.inl rfl | exact pI30)⟩
    · exact hk4 ((-1)) I0 (lit_in rfl) hRI0 ⟨(by intro q j hq; grind), (by first | exact Or.inl rfl | exact pI30)⟩
theorem ok_X_fills (fu : Nat) (o0 : Nat) (I0 : IMem) (hfu : 5000000000 < fu) (hRI0 : GX o0 I0) : sat (f_X_fills fu o0 I0) (fun v I => inr v ∧ GX o0 I ∧ (FS o0 I ∧ ∀ j : Nat, j ≠ 75 → I (o0 + 1) j = I0 (o0 + 1) j)) := by
  unfold f_X_fills
  refine sat_zb (ok_X_begins fu o0 I0 hfu hRI0 ) (fun u_1 I2 c_2 ⟨⟨au_1, bu_1⟩, hRI2, pI2⟩ => ?_)
  have fI2 : ∀ q j, ¬ (q = o0 + 9 ∨ q = o0 + 12 ∨ (q = o0 ∧ j = 30) ∨ (q = o0 ∧ j = 31) ∨ (q = o0 ∧ j = 32) ∨ (q = o0 ∧ j = 33) ∨ (q = o0 ∧ j = 34)) → I2 q j = I0 q j := fc_X_begins (fun q j => q = o0 + 9 ∨ q = o0 + 12 ∨ (q = o0 ∧ j = 30) ∨ (q = o0 ∧ j = 31) ∨ (q = o0 ∧ j = 32) ∨ (q = o0 ∧ j = 33) ∨ (q = o0 ∧ j = 34)) fu o0 I0 (fun _ => by simp) (fun _ => by simp) (by simp) (by simp) (by simp) (by simp) (by simp) c_2
  have hcn0 := cnt_nn (mk o0 I2) 240
  refine ok_X_fills_4 (Ib := I2) fu _ o0 hfu ?_ (fun v I h1 h2 h3 => sat_zr ⟨h1, h2, (by first | exact h3.elim | exact h3.2.elim)⟩) fu I2 hRI2 ⟨(fun _ _ _ => rfl), ⟨fv_0 hRI2 pI2.1 pI2.2.1 (by have hga := gx_a hRI0; omega) pI2.2.2.2, fun j _ => rfl⟩⟩ (by first | omega | (simp (disch := omega) only [wr32_i2, wdiv_i2, wrem_i2]; omega) | grind | grind [wr32])
  · intro I32  hRI32 xI32
    have fI32 := xI32.1; replace xI32 := xI32.2
    refine sat_zb (ok_X_parts0 fu o0 I32 hfu hRI32 (by first | omega | (simp (disch := omega) only [wr32_i2, wdiv_i2, wrem_i2]; omega) | grind | grind [wr32])) (fun u_3 I34 c_4 ⟨⟨au_3, bu_3⟩, hRI34, pI34⟩ => ?_)
    have fI34 : ∀ q j, ¬ (q = o0 + 7 ∨ q = o0 + 9 ∨ q = o0 + 11 ∨ (q = o0 ∧ j = 30) ∨ (q = o0 ∧ j = 31) ∨ (q = o0 ∧ j = 33) ∨ (q = o0 ∧ j = 34) ∨ (q = o0 + 8 ∧ j = 1) ∨ (q = o0 + 8 ∧ j = 2) ∨ (q = o0 + 8 ∧ j = 3) ∨ (q = o0 + 8 ∧ j = 4) ∨ (q = o0 + 8 ∧ j = 5) ∨ (q = o0 + 8 ∧ j = 6) ∨ (q = o0 + 8 ∧ j = 7) ∨ (q = o0 + 8 ∧ j = 8) ∨ (q = o0 + 8 ∧ j = 9)) → I34 q j = I32 q j := fc_X_parts0 (fun q j => q = o0 + 7 ∨ q = o0 + 9 ∨ q = o0 + 11 ∨ (q = o0 ∧ j = 30) ∨ (q = o0 ∧ j = 31) ∨ (q = o0 ∧ j = 33) ∨ (q = o0 ∧ j = 34) ∨ (q = o0 + 8 ∧ j = 1) ∨ (q = o0 + 8 ∧ j = 2) ∨ (q = o0 + 8 ∧ j = 3) ∨ (q = o0 + 8 ∧ j = 4) ∨ (q = o0 + 8 ∧ j = 5) ∨ (q = o0 + 8 ∧ j = 6) ∨ (q = o0 + 8 ∧ j = 7) ∨ (q = o0 + 8 ∧ j = 8) ∨ (q = o0 + 8 ∧ j = 9)) fu o0 I32 (fun _ => by simp) (fun _ => by simp) (fun _ => by simp) (by simp) (by simp) (by simp) (by simp) (by simp) (by simp) (by simp) (by simp) (by simp) (by simp) (by simp) (by simp) (by simp) c_4
    exact sat_zr ⟨(lit_in rfl), hRI34, ⟨pI34, fun j hj => (fI34 _ _ (by omega)).trans ((xI32.2 j hj).trans (fI2 _ _ (by omega)))⟩⟩
theorem ok_X_chair (fu : Nat) (o0 : Nat) (I0 : IMem) (hfu : 5000000000 < fu) (hRI0 : GX o0 I0) (hc : I0 (o0 + 1) 70 < 2000000000) : sat (f_X_chair fu o0 I0) (fun v I => inr v ∧ GX o0 I ∧ (I o0 35 = 0 ∧ I (o0 + 1) 70 = I0 (o0 + 1) 70 + 1 ∧ (∀ k : Nat, k < 240 → I (o0 + 13) k = 0))) := by
  unfold f_X_chair
  refine sat_zb (ok_X_fills fu o0 I0 hfu hRI0 ) (fun u_1 I2 c_2 ⟨⟨au_1, bu_1⟩, hRI2, pI2⟩ => ?_)
  have fI2 : ∀ q j, ¬ (q = o0 + 7 ∨ q = o0 + 9 ∨ q = o0 + 10 ∨ q = o0 + 11 ∨ q = o0 + 12 ∨ (q = o0 ∧ j = 30) ∨ (q = o0 ∧ j = 31) ∨ (q = o0 ∧ j = 32) ∨ (q = o0 ∧ j = 33) ∨ (q = o0 ∧ j = 34) ∨ (q = o0 + 1 ∧ j = 75) ∨ (q = o0 + 8 ∧ j = 1) ∨ (q = o0 + 8 ∧ j = 2) ∨ (q = o0 + 8 ∧ j = 3) ∨ (q = o0 + 8 ∧ j = 4) ∨ (q = o0 + 8 ∧ j = 5) ∨ (q = o0 + 8 ∧ j = 6) ∨ (q = o0 + 8 ∧ j = 7) ∨ (q = o0 + 8 ∧ j = 8) ∨ (q = o0 + 8 ∧ j = 9)) → I2 q j = I0 q j := fc_X_fills (fun q j => q = o0 + 7 ∨ q = o0 + 9 ∨ q = o0 + 10 ∨ q = o0 + 11 ∨ q = o0 + 12 ∨ (q = o0 ∧ j = 30) ∨ (q = o0 ∧ j = 31) ∨ (q = o0 ∧ j = 32) ∨ (q = o0 ∧ j = 33) ∨ (q = o0 ∧ j = 34) ∨ (q = o0 + 1 ∧ j = 75) ∨ (q = o0 + 8 ∧ j = 1) ∨ (q = o0 + 8 ∧ j = 2) ∨ (q = o0 + 8 ∧ j = 3) ∨ (q = o0 + 8 ∧ j = 4) ∨ (q = o0 + 8 ∧ j = 5) ∨ (q = o0 + 8 ∧ j = 6) ∨ (q = o0 + 8 ∧ j = 7) ∨ (q = o0 + 8 ∧ j = 8) ∨ (q = o0 + 8 ∧ j = 9)) fu o0 I0 (fun _ => by simp) (fun _ => by simp) (fun _ => by simp) (fun _ => by simp) (fun _ => by simp) (by simp) (by simp) (by simp) (by simp) (by simp) (by simp) (by simp) (by simp) (by simp) (by simp) (by simp) (by simp) (by simp) (by simp) (by simp) c_2
  have hc2 := pI2.2 70 (by decide)
  refine sat_zb (ok_X_goesOff fu o0 I2 hfu hRI2 (by first | omega | (simp (disch := omega) only [wr32_i2, wdiv_i2, wrem_i2]; omega) | grind | grind [wr32]) (by first | omega | (simp (disch := omega) only [wr32_i2, wdiv_i2, wrem_i2]; omega) | grind | grind [wr32])) (fun y4 I5 c_3 ⟨⟨ay4, by4⟩, hRI5, pI5⟩ => ?_)
  have fI5 : ∀ q j, ¬ (q = o0 + 1 ∨ q = o0 + 13 ∨ q = o0 + 14 ∨ (q = o0 ∧ j = 24) ∨ (q = o0 ∧ j = 35)) → I5 q j = I2 q j := fc_X_goesOff (fun q j => q = o0 + 1 ∨ q = o0 + 13 ∨ q = o0 + 14 ∨ (q = o0 ∧ j = 24) ∨ (q = o0 ∧ j = 35)) fu o0 I2 (fun _ => by simp) (fun _ => by simp) (fun _ => by simp) (by simp) (by simp) c_3
  exact sat_zr ⟨⟨ay4, by4⟩, hRI5, ⟨pI5.1, pI5.2.1.trans (by omega), pI5.2.2⟩⟩
theorem ok_X_turn_2 {Ib : IMem} (fu : Nat) (k_77 : IMem → Res) (o0 : Nat) (hfu : 5000000000 < fu) {Q_ : Int → IMem → Prop} (hk_77 : ∀ (I9 : IMem), GX o0 I9 → ((∀ q j, ¬ (q = o0 + 1 ∨ q = o0 + 7 ∨ (q = o0 ∧ j = 24) ∨ (q = o0 + 8 ∧ j = 1) ∨ (q = o0 + 8 ∧ j = 7) ∨ (q = o0 + 8 ∧ j = 10) ∨ (q = o0 + 8 ∧ j = 11)) → I9 q j = Ib q j) ∧ (I9 (o0 + 1) 70 = Ib (o0 + 1) 70)) → sat (k_77 I9) Q_) (hret : ∀ v I, inr v → GX o0 I → ((∀ q j, ¬ (q = o0 + 1 ∨ q = o0 + 7 ∨ (q = o0 ∧ j = 24) ∨ (q = o0 + 8 ∧ j = 1) ∨ (q = o0 + 8 ∧ j = 7) ∨ (q = o0 + 8 ∧ j = 10) ∨ (q = o0 + 8 ∧ j = 11)) → I q j = Ib q j) ∧ (False)) → sat (zr v I) Q_) : ∀ (m : Nat) (w1 : Int) (I0 : IMem), inr w1 → GX o0 I0 → ((∀ q j, ¬ (q = o0 + 1 ∨ q = o0 + 7 ∨ (q = o0 ∧ j = 24) ∨ (q = o0 + 8 ∧ j = 1) ∨ (q = o0 + 8 ∧ j = 7) ∨ (q = o0 + 8 ∧ j = 10) ∨ (q = o0 + 8 ∧ j = 11)) → I0 q j = Ib q j) ∧ (0 ≤ w1 ∧ I0 (o0 + 1) 70 = Ib (o0 + 1) 70)) → (8 - w1).toNat < m → sat (f_X_turn_2 fu k_77 o0 m w1 I0) Q_ := by
  intro m
  induction m with
  | zero => intro w1 I0 _ _ _ h0; exact absurd h0 (Nat.not_lt_zero _)
  | succ m hR_ =>
    intro w1 I0 ⟨aw1, bw1⟩ hRI0 hinv hmeas
    have fI0 := hinv.1; replace hinv := hinv.2
    show sat (fb_X_turn_2 fu k_77 o0 (f_X_turn_2 fu k_77 o0 m) w1 I0) Q_
    unfold fb_X_turn_2
    refine sat_ite (fun q_1 => ?_) (fun q_1 => ?_)
    · refine sat_zl (wr32_in _) (fun x1 hx1 ax1 bx1 => ?_)
      try simp (disch := omega) only [wr32_i2, wdiv_i2, wrem_i2] at hx1
      refine sat_zl (wr32_in _) (fun x2 hx2 ax2 bx2 => ?_)
      try simp (disch := omega) only [wr32_i2, wdiv_i2, wrem_i2] at hx2
      have hcm := hRI0.2.1.2.2.2.1 w1.toNat (by omega)
      refine sat_zg (by first | omega | grind | grind [wr32]) (fun g_2 => ?_)
      refine sat_zj (fun k3 ek3 => ?_)
      have hk3 : ∀ (I4 : IMem), GX o0 I4 → ((∀ q j, ¬ (q = o0 + 1 ∨ q = o0 + 7 ∨ (q = o0 ∧ j = 24) ∨ (q = o0 + 8 ∧ j = 1) ∨ (q = o0 + 8 ∧ j = 7) ∨ (q = o0 + 8 ∧ j = 10) ∨ (q = o0 + 8 ∧ j = 11)) → I4 q j = I0 q j) ∧ (I4 (o0 + 1) 70 = I0 (o0 + 1) 70)) → sat (k3 I4) Q_ := by
        intro I4  hRI4 jk3
        subst ek3
        have fI4 := jk3.1; replace jk3 := jk3.2
        refine sat_zl (wr32_in _) (fun x5 hx5 ax5 bx5 => ?_)
        try simp (disch := omega) only [wr32_i2, wdiv_i2, wrem_i2] at hx5
        exact hR_ x5 I4 ⟨ax5, bx5⟩ hRI4 ⟨(by intro q j hq; grind), ⟨by omega, jk3.trans hinv.2⟩⟩ (by first | omega | (simp (disch := omega) only [wr32_i2, wdiv_i2, wrem_i2]; omega) | grind | grind [wr32])
      clear ek3
      have ⟨r_3a, r_3b⟩ : -2147483648 ≤ I0 (o0 + 1) x2.toNat ∧ I0 (o0 + 1) x2.toNat < 2147483648 := hRI0.1 (o0 + 1) x2.toNat
      try have r_3many := gx_many hRI0 x2.toNat (by omega) (by omega)
      try have r_3seen := gx_seen hRI0 x2.toNat (by omega) (by omega)
      try have r_3part := gx_part hRI0 x2.toNat (by omega) (by omega)
      try have r_3rows := gx_rows hRI0 x2.toNat (by omega) (by omega) (by omega)
      refine sat_ite (fun q_4 => ?_) (fun q_4 => ?_)
      · refine sat_zb (ok_X_draw fu o0 1000 I0 hfu hRI0 (lit_in rfl) (by first | omega | (simp (disch := omega) only [wr32_i2, wdiv_i2, wrem_i2]; omega) | grind | grind [wr32])) (fun y6 I7 c_5 ⟨⟨ay6, by6⟩, hRI7, pI7⟩ => ?_)
        have fI7 : ∀ q j, ¬ ((q = o0 + 1 ∧ j = 0)) → I7 q j = I0 q j := fc_X_draw (fun q j => (q = o0 + 1 ∧ j = 0)) fu o0 1000 I0 (by simp) c_5
        have hc1 : 1 ≤ I7 (o0 + 1) x1.toNat ∧ I7 (o0 + 1) x1.toNat ≤ 8 := by rw [fI7 _ _ (by omega), show x1.toNat = 26 + 4 * w1.toNat by omega]; exact hcm (by rw [show 29 + 4 * w1.toNat = x2.toNat by omega]; assumption)
        refine sat_zl (wr32_in _) (fun x9 hx9 ax9 bx9 => ?_)
        try simp (disch := omega) only [wr32_i2, wdiv_i2, wrem_i2] at hx9
        refine sat_zg (by first | omega | grind | grind [wr32]) (fun g_6 => ?_)
        have ⟨r_7a, r_7b⟩ : -2147483648 ≤ I7 (o0 + 1) x9.toNat ∧ I7 (o0 + 1) x9.toNat < 2147483648 := hRI7.1 (o0 + 1) x9.toNat
        try have r_7many := gx_many hRI7 x9.toNat (by omega) (by omega)
        try have r_7seen := gx_seen hRI7 x9.toNat (by omega) (by omega)
        try have r_7part := gx_part hRI7 x9.toNat (by omega) (by omega)
        try have r_7rows := gx_rows hRI7 x9.toNat (by omega) (by omega) (by omega)
        refine sat_ite (fun q_8 => ?_) (fun q_8 => ?_)
        · refine sat_zg (by first | omega | grind | grind [wr32]) (fun g_9 => ?_)
          refine sat_zl (wr32_in _) (fun x10 hx10 ax10 bx10 => ?_)
          try simp (disch := omega) only [wr32_i2, wdiv_i2, wrem_i2] at hx10
          refine sat_zg (by first | omega | grind | grind [wr32]) (fun g_10 => ?_)
          refine sat_zl (wr32_in _) (fun x11 hx11 ax11 bx11 => ?_)
          try simp (disch := omega) only [wr32_i2, wdiv_i2, wrem_i2] at hx11
          refine sat_zg (by first | omega | grind | grind [wr32]) (fun g_11 => ?_)
          have ⟨r_13a, r_13b⟩ : -2147483648 ≤ I7 (o0 + 1) x1.toNat ∧ I7 (o0 + 1) x1.toNat < 2147483648 := hRI7.1 (o0 + 1) x1.toNat
          try have r_13many := gx_many hRI7 x1.toNat (by omega) (by omega)
          try have r_13seen := gx_seen hRI7 x1.toNat (by omega) (by omega)
          try have r_13part := gx_part hRI7 x1.toNat (by omega) (by omega)
          try have r_13rows := gx_rows hRI7 x1.toNat (by omega) (by omega) (by omega)
          have ⟨r_14a, r_14b⟩ : -2147483648 ≤ I7 (o0 + 1) x10.toNat ∧ I7 (o0 + 1) x10.toNat < 2147483648 := hRI7.1 (o0 + 1) x10.toNat
          try have r_14many := gx_many hRI7 x10.toNat (by omega) (by omega)
          try have r_14seen := gx_seen hRI7 x10.toNat (by omega) (by omega)
          try have r_14part := gx_part hRI7 x10.toNat (by omega) (by omega)
          try have r_14rows := gx_rows hRI7 x10.toNat (by omega) (by omega) (by omega)
          have ⟨r_15a, r_15b⟩ : -2147483648 ≤ I7 (o0 + 1) x11.toNat ∧ I7 (o0 + 1) x11.toNat < 2147483648 := hRI7.1 (o0 + 1) x11.toNat
          try have r_15many := gx_many hRI7 x11.toNat (by omega) (by omega)
          try have r_15seen := gx_seen hRI7 x11.toNat (by omega) (by omega)
          try have r_15part := gx_part hRI7 x11.toNat (by omega) (by omega)
          try have r_15rows := gx_rows hRI7 x11.toNat (by omega) (by omega) (by omega)
          refine sat_zb (ok_X_comes fu o0 (I7 (o0 + 1) x1.toNat) (I7 (o0 + 1) x10.toNat) (I7 (o0 + 1) x11.toNat) I7 hfu hRI7 (hRI7.1 (o0 + 1) x1.toNat) (hRI7.1 (o0 + 1) x10.toNat) (hRI7.1 (o0 + 1) x11.toNat) (by first | omega | (simp (disch := omega) only [wr32_i2, wdiv_i2, wrem_i2]; omega) | grind | grind [wr32])) (fun y12 I13 c_12 ⟨⟨ay12, by12⟩, hRI13, pI13⟩ => ?_)
          have fI13 : ∀ q j, ¬ (q = o0 + 1 ∨ q = o0 + 7 ∨ (q = o0 ∧ j = 24) ∨ (q = o0 + 8 ∧ j = 1) ∨ (q = o0 + 8 ∧ j = 7) ∨ (q = o0 + 8 ∧ j = 10) ∨ (q = o0 + 8 ∧ j = 11)) → I13 q j = I7 q j := fc_X_comes (fun q j => q = o0 + 1 ∨ q = o0 + 7 ∨ (q = o0 ∧ j = 24) ∨ (q = o0 + 8 ∧ j = 1) ∨ (q = o0 + 8 ∧ j = 7) ∨ (q = o0 + 8 ∧ j = 10) ∨ (q = o0 + 8 ∧ j = 11)) fu o0 (I7 (o0 + 1) x1.toNat) (I7 (o0 + 1) x10.toNat) (I7 (o0 + 1) x11.toNat) I7 (fun _ => by simp) (fun _ => by simp) (by simp) (by simp) (by simp) (by simp) (by simp) c_12
          exact hk3 I13 hRI13 ⟨(by intro q j hq; grind), (by first | exact (pI13.1 70 (by decide) (by decide)).trans (fI7 _ _ (by omega)) | exact fI7 _ _ (by omega) | rfl)⟩
        · exact hk3 I7 hRI7 ⟨(by intro q j hq; grind), (by first | exact (pI13.1 70 (by decide) (by decide)).trans (fI7 _ _ (by omega)) | exact fI7 _ _ (by omega) | rfl)⟩
      · exact hk3 I0 hRI0 ⟨(by intro q j hq; grind), (by first | exact (pI13.1 70 (by decide) (by decide)).trans (fI7 _ _ (by omega)) | exact fI7 _ _ (by omega) | rfl)⟩
    · exact hk_77 I0 hRI0 ⟨(by intro q j hq; grind), hinv.2⟩
