/-! safety of the reference -/
theorem ok_X_goesOff (fu : Nat) (o0 : Nat) (I0 : IMem) (hfu : 5000000000 < fu) (hRI0 : GX o0 I0) (hfs : FS o0 I0) (hc : I0 (o0 + 1) 70 < 2000000000) : sat (f_X_goesOff fu o0 I0) (fun v I => inr v ∧ GX o0 I ∧ (I o0 35 = 0 ∧ I (o0 + 1) 70 = I0 (o0 + 1) 70 + 1 ∧ (∀ k : Nat, k < 240 → I (o0 + 13) k = 0))) := by
  unfold f_X_goesOff
  have hft := hfs.1
  have ⟨r_1a, r_1b⟩ : -2147483648 ≤ I0 (o0 + 1) 1 ∧ I0 (o0 + 1) 1 < 2147483648 := hRI0.1 (o0 + 1) 1
  have r_1g := gx_a hRI0
  have ⟨r_2a, r_2b⟩ : -2147483648 ≤ I0 o0 30 ∧ I0 o0 30 < 2147483648 := hRI0.1 o0 30
  refine sat_zl (wr32_in _) (fun x1 hx1 ax1 bx1 => ?_)
  try simp (disch := omega) only [wr32_i2, wdiv_i2, wrem_i2] at hx1
  have ⟨r_3a, r_3b⟩ : -2147483648 ≤ I0 (o0 + 1) 71 ∧ I0 (o0 + 1) 71 < 2147483648 := hRI0.1 (o0 + 1) 71
  refine sat_zwX1 hRI0 (wr32_in _) (cw_lit rfl) (fun I2 eI2 hRI2 => ?_)
  have ⟨r_4a, r_4b⟩ : -2147483648 ≤ I2 (o0 + 1) 72 ∧ I2 (o0 + 1) 72 < 2147483648 := hRI2.1 (o0 + 1) 72
  refine sat_zwX1 hRI2 (wr32_in _) (cw_lit rfl) (fun I3 eI3 hRI3 => ?_)
  have ⟨r_5a, r_5b⟩ : -2147483648 ≤ I3 o0 31 ∧ I3 o0 31 < 2147483648 := hRI3.1 o0 31
  refine sat_zwX1 hRI3 (hRI3.1 o0 31) (cw_110 (by first | omega | (simp (disch := omega) only [wr32_i2, wdiv_i2, wrem_i2]; omega) | grind)) (fun I4 eI4 hRI4 => ?_)
  have ⟨r_6a, r_6b⟩ : -2147483648 ≤ I4 o0 30 ∧ I4 o0 30 < 2147483648 := hRI4.1 o0 30
  refine sat_zwX1 hRI4 (hRI4.1 o0 30) (cw_lit rfl) (fun I5 eI5 hRI5 => ?_)
  have hw5 : ∀ q j, (q ≠ o0 + 1 ∨ (j ≠ 71 ∧ j ≠ 72 ∧ j ≠ 110 ∧ j ≠ 111)) → I5 q j = I0 q j := fun q j h => by rw [eI5, if_neg (by omega), eI4, if_neg (by omega), eI3, if_neg (by omega), eI2, if_neg (by omega)]
  have hfs5 : FS o0 I5 := fs_same hfs (fun k _ => hw5 _ _ (by omega)) (fun k => hw5 _ _ (by omega)) (fun k => hw5 _ _ (by omega)) (fun k => hw5 _ _ (by omega)) (hw5 _ _ (by omega)) (hw5 _ _ (by omega))
  have hc5 := hw5 (o0 + 1) 70 (by omega)
  refine ok_X_goesOff_61 (Ib := I5) fu _ o0 x1 hfu ⟨ax1, bx1⟩ (by first | omega | (simp (disch := omega) only [wr32_i2, wdiv_i2, wrem_i2]; omega) | grind | grind [wr32]) ?_ (fun v I h1 h2 h3 => sat_zr ⟨h1, h2, (by first | exact h3.elim | exact h3.2.elim)⟩) fu 0 I5 (lit_in rfl) hRI5 ⟨(fun _ _ _ => rfl), (by first | omega | (simp (disch := omega) only [wr32_i2, wdiv_i2, wrem_i2]; omega) | grind | grind [wr32])⟩ (by first | omega | (simp (disch := omega) only [wr32_i2, wdiv_i2, wrem_i2]; omega) | grind | grind [wr32])
  · intro I30  hRI30 xI30
    have fI30 := xI30.1; replace xI30 := xI30.2
    have hfs30 : FS o0 I30 := fs_same hfs5 (fun k _ => xI30 _ (Or.inr (by omega))) (fun k => fI30 _ _ (by omega)) (fun k => fI30 _ _ (by omega)) (fun k => fI30 _ _ (by omega)) (fI30 _ _ (by omega)) (fI30 _ _ (by omega))
    have hc30 := xI30 70 (Or.inl (by omega))
    refine ok_X_goesOff_205 (Ib := I30) fu _ o0 x1 hfu ⟨ax1, bx1⟩ (by first | omega | (simp (disch := omega) only [wr32_i2, wdiv_i2, wrem_i2]; omega) | grind | grind [wr32]) ?_ (fun v I h1 h2 h3 => sat_zr ⟨h1, h2, (by first | exact h3.elim | exact h3.2.elim)⟩) fu 0 I30 (lit_in rfl) hRI30 ⟨(fun _ _ _ => rfl), (by first | omega | (simp (disch := omega) only [wr32_i2, wdiv_i2, wrem_i2]; omega) | grind | grind [wr32])⟩ (by first | omega | (simp (disch := omega) only [wr32_i2, wdiv_i2, wrem_i2]; omega) | grind | grind [wr32])
    · intro I37  hRI37 xI37
      have fI37 := xI37.1; replace xI37 := xI37.2
      have hfs37 : FS o0 I37 := fs_same hfs30 (fun k _ => fI37 _ _ (by omega)) (fun k => fI37 _ _ (by omega)) (fun k => fI37 _ _ (by omega)) (fun k => fI37 _ _ (by omega)) (fI37 _ _ (by omega)) (fI37 _ _ (by omega))
      have hc37 := fI37 (o0 + 1) 70 (by omega)
      refine ok_X_goesOff_266 (Ib := I37) fu _ o0 x1 hfu ⟨ax1, bx1⟩ (by first | omega | (simp (disch := omega) only [wr32_i2, wdiv_i2, wrem_i2]; omega) | grind | grind [wr32]) ?_ (fun v I h1 h2 h3 => sat_zr ⟨h1, h2, (by first | exact h3.elim | exact h3.2.elim)⟩) fu 0 I37 (lit_in rfl) hRI37 ⟨(fun _ _ _ => rfl), (by first | omega | (simp (disch := omega) only [wr32_i2, wdiv_i2, wrem_i2]; omega) | grind | grind [wr32])⟩ (by first | omega | (simp (disch := omega) only [wr32_i2, wdiv_i2, wrem_i2]; omega) | grind | grind [wr32])
      · intro I42  hRI42 xI42
        have fI42 := xI42.1; replace xI42 := xI42.2
        have h32 : I42 o0 32 = I30 o0 32 := (fI42 o0 32 (by omega)).trans (fI37 o0 32 (by omega))
        have hft30 := hfs30.1
        have hot42 : ∀ i : Nat, (i : Int) < I42 o0 32 → 1 ≤ I42 (o0 + 14) (6 * i + 1) ∧ I42 (o0 + 14) (6 * i + 1) ≤ 8 := fun i hi => by rw [fI42 (o0 + 14) _ (by omega)]; exact xI37 i (by omega)
        refine ok_X_goesOff_285 (Ib := I42) fu _ o0 x1 hfu ⟨ax1, bx1⟩ (by first | omega | (simp (disch := omega) only [wr32_i2, wdiv_i2, wrem_i2]; omega) | grind | grind [wr32]) (by first | omega | (simp (disch := omega) only [wr32_i2, wdiv_i2, wrem_i2]; omega) | grind | grind [wr32]) ?_ (fun v I h1 h2 h3 => sat_zr ⟨h1, h2, (by first | exact h3.elim | exact h3.2.elim)⟩) fu 0 I42 (lit_in rfl) hRI42 ⟨(fun _ _ _ => rfl), (by first | omega | (simp (disch := omega) only [wr32_i2, wdiv_i2, wrem_i2]; omega) | grind | grind [wr32])⟩ (by first | omega | (simp (disch := omega) only [wr32_i2, wdiv_i2, wrem_i2]; omega) | grind | grind [wr32])
        · intro I53  hRI53 xI53
          have fI53 := xI53.1; replace xI53 := xI53.2
          have hc53 : I53 (o0 + 1) 70 = I0 (o0 + 1) 70 := by omega
          have ga0 := gx_a hRI0
          have hv54 : wr32 (I53 (o0 + 1) 70 + 1) = I0 (o0 + 1) 70 + 1 := by rw [hc53]; exact wr32_i2 (by omega) (by omega)
          have ⟨r_7a, r_7b⟩ : -2147483648 ≤ I53 (o0 + 1) 70 ∧ I53 (o0 + 1) 70 < 2147483648 := hRI53.1 (o0 + 1) 70
          have r_7g := gx_a hRI53
          refine sat_zwX1 hRI53 (wr32_in _) (cw_70 ⟨rfl, by rw [hv54]; omega⟩) (fun I54 eI54 hRI54 => ?_)
          have hc54 : I54 (o0 + 1) 70 = I0 (o0 + 1) 70 + 1 := by rw [eI54, if_pos ⟨rfl, rfl⟩, hv54]
          have ⟨r_8a, r_8b⟩ : -2147483648 ≤ I54 (o0 + 1) 73 ∧ I54 (o0 + 1) 73 < 2147483648 := hRI54.1 (o0 + 1) 73
          have ⟨r_9a, r_9b⟩ : -2147483648 ≤ I54 (o0 + 1) 2 ∧ I54 (o0 + 1) 2 < 2147483648 := hRI54.1 (o0 + 1) 2
          refine sat_zwX1 hRI54 (wr32_in _) (cw_lit rfl) (fun I55 eI55 hRI55 => ?_)
          refine sat_zj (fun k56 ek56 => ?_)
          have hk56 : ∀ (I57 : IMem), GX o0 I57 → ((∀ q j, ¬ ((q = o0 + 1 ∧ j = 0) ∨ (q = o0 + 1 ∧ j = 73) ∨ (q = o0 + 1 ∧ j = 74)) → I57 q j = I55 q j) ∧ (I57 (o0 + 1) 70 = I0 (o0 + 1) 70 + 1)) → sat (k56 I57) (fun v I => inr v ∧ GX o0 I ∧ (I o0 35 = 0 ∧ I (o0 + 1) 70 = I0 (o0 + 1) 70 + 1 ∧ (∀ k : Nat, k < 240 → I (o0 + 13) k = 0))) := by
            intro I57  hRI57 jk56
            subst ek56
            have fI57 := jk56.1; replace jk56 := jk56.2
            have ⟨r_10a, r_10b⟩ : -2147483648 ≤ I57 (o0 + 1) 70 ∧ I57 (o0 + 1) 70 < 2147483648 := hRI57.1 (o0 + 1) 70
            have r_10g := gx_a hRI57
            refine sat_zl (wr32_in _) (fun x58 hx58 ax58 bx58 => ?_)
            try simp (disch := omega) only [wr32_i2, wdiv_i2, wrem_i2] at hx58
            refine sat_zg (by first | omega | grind | grind [wr32]) (fun g_11 => ?_)
            have ⟨r_12a, r_12b⟩ : -2147483648 ≤ I57 o0 30 ∧ I57 o0 30 < 2147483648 := hRI57.1 o0 30
            refine sat_zwX1 hRI57 (hRI57.1 o0 30) (cw_6010 (by first | omega | (simp (disch := omega) only [wr32_i2, wdiv_i2, wrem_i2]; omega) | grind)) (fun I59 eI59 hRI59 => ?_)
            refine sat_zl (wr32_in _) (fun x61 hx61 ax61 bx61 => ?_)
            try simp (disch := omega) only [wr32_i2, wdiv_i2, wrem_i2] at hx61
            refine sat_zg (by first | omega | grind | grind [wr32]) (fun g_13 => ?_)
            have ⟨r_14a, r_14b⟩ : -2147483648 ≤ I59 o0 31 ∧ I59 o0 31 < 2147483648 := hRI59.1 o0 31
            refine sat_zwX1 hRI59 (hRI59.1 o0 31) (cw_6010 (by first | omega | (simp (disch := omega) only [wr32_i2, wdiv_i2, wrem_i2]; omega) | grind)) (fun I60 eI60 hRI60 => ?_)
            refine sat_zl (wr32_in _) (fun x63 hx63 ax63 bx63 => ?_)
            try simp (disch := omega) only [wr32_i2, wdiv_i2, wrem_i2] at hx63
            refine sat_zg (by first | omega | grind | grind [wr32]) (fun g_15 => ?_)
            have ⟨r_16a, r_16b⟩ : -2147483648 ≤ I60 (o0 + 1) 73 ∧ I60 (o0 + 1) 73 < 2147483648 := hRI60.1 (o0 + 1) 73
            refine sat_zwX1 hRI60 (hRI60.1 (o0 + 1) 73) (cw_6010 (by first | omega | (simp (disch := omega) only [wr32_i2, wdiv_i2, wrem_i2]; omega) | grind)) (fun I62 eI62 hRI62 => ?_)
            refine sat_zb (ok_X_forgets fu o0 I62 hfu hRI62 ) (fun u_17 I65 c_18 ⟨⟨au_17, bu_17⟩, hRI65, pI65⟩ => ?_)
            have fI65 : ∀ q j, ¬ (q = o0 + 13 ∨ (q = o0 ∧ j = 35)) → I65 q j = I62 q j := fc_X_forgets (fun q j => q = o0 + 13 ∨ (q = o0 ∧ j = 35)) fu o0 I62 (fun _ => by simp) (by simp) c_18
            exact sat_zr ⟨⟨ax1, bx1⟩, hRI65, ⟨pI65.1, by rw [fI65 (o0 + 1) 70 (by omega), eI62, if_neg (by omega), eI60, if_neg (by omega), eI59, if_neg (by omega)]; exact jk56, pI65.2⟩⟩
          clear ek56
          have ⟨r_19a, r_19b⟩ : -2147483648 ≤ I55 (o0 + 1) 4 ∧ I55 (o0 + 1) 4 < 2147483648 := hRI55.1 (o0 + 1) 4
          refine sat_ite (fun q_20 => ?_) (fun q_20 => ?_)
          · refine sat_zb (ok_X_draw fu o0 1000 I55 hfu hRI55 (lit_in rfl) (by first | omega | (simp (disch := omega) only [wr32_i2, wdiv_i2, wrem_i2]; omega) | grind | grind [wr32])) (fun y67 I68 c_21 ⟨⟨ay67, by67⟩, hRI68, pI68⟩ => ?_)
            have fI68 : ∀ q j, ¬ ((q = o0 + 1 ∧ j = 0)) → I68 q j = I55 q j := fc_X_draw (fun q j => (q = o0 + 1 ∧ j = 0)) fu o0 1000 I55 (by simp) c_21
            have ⟨r_22a, r_22b⟩ : -2147483648 ≤ I68 (o0 + 1) 4 ∧ I68 (o0 + 1) 4 < 2147483648 := hRI68.1 (o0 + 1) 4
            refine sat_ite (fun q_23 => ?_) (fun q_23 => ?_)
            · have ⟨r_24a, r_24b⟩ : -2147483648 ≤ I68 (o0 + 1) 73 ∧ I68 (o0 + 1) 73 < 2147483648 := hRI68.1 (o0 + 1) 73
              have ⟨r_25a, r_25b⟩ : -2147483648 ≤ I68 (o0 + 1) 3 ∧ I68 (o0 + 1) 3 < 2147483648 := hRI68.1 (o0 + 1) 3
              refine sat_zwX1 hRI68 (wr32_in _) (cw_lit rfl) (fun I70 eI70 hRI70 => ?_)
              have ⟨r_26a, r_26b⟩ : -2147483648 ≤ I70 (o0 + 1) 74 ∧ I70 (o0 + 1) 74 < 2147483648 := hRI70.1 (o0 + 1) 74
              refine sat_zwX1 hRI70 (wr32_in _) (cw_lit rfl) (fun I71 eI71 hRI71 => ?_)
              exact hk56 I71 hRI71 ⟨(by intro q j hq; grind), (by first | omega | (simp (disch := omega) only [wr32_i2, wdiv_i2, wrem_i2]; omega) | grind | grind [wr32])⟩
            · exact hk56 I68 hRI68 ⟨(by intro q j hq; grind), (by first | omega | (simp (disch := omega) only [wr32_i2, wdiv_i2, wrem_i2]; omega) | grind | grind [wr32])⟩
          · exact hk56 I55 hRI55 ⟨(by intro q j hq; grind), (by first | omega | (simp (disch := omega) only [wr32_i2, wdiv_i2, wrem_i2]; omega) | grind | grind [wr32])⟩
theorem ok_X_takes (fu : Nat) (o0 : Nat) (a1 : Int) (a2 : Int) (a3 : Int) (I0 : IMem) (hfu : 5000000000 < fu) (hRI0 : GX o0 I0) (qa1 : inr a1) (qa2 : inr a2) (qa3 : inr a3) (h0 : 0 ≤ a1 ∧ a1 < 6 ∧ 0 ≤ a2 ∧ a2 < 40 ∧ 0 ≤ I0 o0 31 ∧ I0 o0 31 < 8) : sat (f_X_takes fu o0 a1 a2 a3 I0) (fun v I => inr v ∧ GX o0 I ∧ (I o0 31 = I0 o0 31 + 1 ∧ I o0 30 = wr32 (I0 o0 30 - a3) ∧ (∀ k, I (o0 + 9) k = if k = (40 * a1 + a2).toNat then a3 else I0 (o0 + 9) k) ∧ (∀ k, I (o0 + 11) k = if k = (I0 o0 31).toNat then 40 * a1 + a2 else I0 (o0 + 11) k))) := by
  unfold f_X_takes
  obtain ⟨aa1, ba1⟩ := qa1
  obtain ⟨aa2, ba2⟩ := qa2
  obtain ⟨aa3, ba3⟩ := qa3
  refine sat_zl (wr32_in _) (fun x2 hx2 ax2 bx2 => ?_)
  try simp (disch := omega) only [wr32_i2, wdiv_i2, wrem_i2] at hx2
  refine sat_zg (by first | omega | grind | grind [wr32]) (fun g_1 => ?_)
  refine sat_zwXn (c := 9) hRI0 ⟨aa3, ba3⟩ (by decide) (Or.inl (by decide)) (fun I1 eI1 hRI1 => ?_)
  have ⟨r_2a, r_2b⟩ : -2147483648 ≤ I1 o0 31 ∧ I1 o0 31 < 2147483648 := hRI1.1 o0 31
  refine sat_zl (hRI1.1 o0 31) (fun x4 hx4 ax4 bx4 => ?_)
  refine sat_zg (by first | omega | grind | grind [wr32]) (fun g_3 => ?_)
  refine sat_zwXn (c := 11) hRI1 (wr32_in _) (by decide) (Or.inl (by decide)) (fun I3 eI3 hRI3 => ?_)
  have ⟨r_4a, r_4b⟩ : -2147483648 ≤ I3 o0 31 ∧ I3 o0 31 < 2147483648 := hRI3.1 o0 31
  refine sat_zwX0 hRI3 (wr32_in _) (by first | omega | (simp (disch := omega) only [wr32_i2, wdiv_i2, wrem_i2]; omega) | grind | grind [wr32]) (fun I5 eI5 hRI5 => ?_)
  have ⟨r_5a, r_5b⟩ : -2147483648 ≤ I5 o0 30 ∧ I5 o0 30 < 2147483648 := hRI5.1 o0 30
  refine sat_zwX0 hRI5 (wr32_in _) (by first | omega | (simp (disch := omega) only [wr32_i2, wdiv_i2, wrem_i2]; omega) | grind | grind [wr32]) (fun I6 eI6 hRI6 => ?_)
  refine sat_zb (ok_X_of fu o0 a1 a2 3 I6 hfu hRI6 ⟨aa1, ba1⟩ ⟨aa2, ba2⟩ (lit_in rfl) (by first | omega | (simp (disch := omega) only [wr32_i2, wdiv_i2, wrem_i2]; omega) | grind | grind [wr32])) (fun y7 I8 c_6 ⟨⟨ay7, by7⟩, _, pI8⟩ => ?_)
  have eI8 := pI8.1.symm; replace pI8 := pI8.2; subst eI8
  refine sat_zj (fun k10 ek10 => ?_)
  have hk10 : ∀ (x12 : Int) (I11 : IMem), inr x12 → GX o0 I11 → (I11 = I6 ∧ (True)) → sat (k10 x12 I11) (fun v I => inr v ∧ GX o0 I ∧ (I o0 31 = I0 o0 31 + 1 ∧ I o0 30 = wr32 (I0 o0 30 - a3) ∧ (∀ k, I (o0 + 9) k = if k = (40 * a1 + a2).toNat then a3 else I0 (o0 + 9) k) ∧ (∀ k, I (o0 + 11) k = if k = (I0 o0 31).toNat then 40 * a1 + a2 else I0 (o0 + 11) k))) := by
    intro x12 I11 ⟨ax12, bx12⟩ hRI11 jk10
    subst ek10
    have ejk10 := jk10.1.symm; replace jk10 := jk10.2; subst ejk10
    have ⟨r_7a, r_7b⟩ : -2147483648 ≤ I6 o0 33 ∧ I6 o0 33 < 2147483648 := hRI6.1 o0 33
    refine sat_zwX0 hRI6 (wr32_in _) (by first | omega | (simp (disch := omega) only [wr32_i2, wdiv_i2, wrem_i2]; omega) | grind | grind [wr32]) (fun I13 eI13 hRI13 => ?_)
    refine sat_zb (ok_X_of fu o0 a1 a2 3 I13 hfu hRI13 ⟨aa1, ba1⟩ ⟨aa2, ba2⟩ (lit_in rfl) (by first | omega | (simp (disch := omega) only [wr32_i2, wdiv_i2, wrem_i2]; omega) | grind | grind [wr32])) (fun y14 I15 c_8 ⟨⟨ay14, by14⟩, _, pI15⟩ => ?_)
    have eI15 := pI15.1.symm; replace pI15 := pI15.2; subst eI15
    refine sat_zj (fun k17 ek17 => ?_)
    have hk17 : ∀ (x19 : Int) (I18 : IMem), inr x19 → GX o0 I18 → (I18 = I13 ∧ (True)) → sat (k17 x19 I18) (fun v I => inr v ∧ GX o0 I ∧ (I o0 31 = I0 o0 31 + 1 ∧ I o0 30 = wr32 (I0 o0 30 - a3) ∧ (∀ k, I (o0 + 9) k = if k = (40 * a1 + a2).toNat then a3 else I0 (o0 + 9) k) ∧ (∀ k, I (o0 + 11) k = if k = (I0 o0 31).toNat then 40 * a1 + a2 else I0 (o0 + 11) k))) := by
      intro x19 I18 ⟨ax19, bx19⟩ hRI18 jk17
      subst ek17
      have ejk17 := jk17.1.symm; replace jk17 := jk17.2; subst ejk17
      have ⟨r_9a, r_9b⟩ : -2147483648 ≤ I13 o0 34 ∧ I13 o0 34 < 2147483648 := hRI13.1 o0 34
      refine sat_zwX0 hRI13 (wr32_in _) (by first | omega | (simp (disch := omega) only [wr32_i2, wdiv_i2, wrem_i2]; omega) | grind | grind [wr32]) (fun I20 eI20 hRI20 => ?_)
      exact sat_zr ⟨(lit_in rfl), hRI20, (by first | omega | (simp (disch := omega) only [wr32_i2, wdiv_i2, wrem_i2]; omega) | grind | grind [wr32])⟩
    clear ek17
    refine sat_ite (fun q_10 => ?_) (fun q_10 => ?_)
    · exact hk17 0 I13 (lit_in rfl) hRI13 ⟨rfl, trivial⟩
    · exact hk17 1 I13 (lit_in rfl) hRI13 ⟨rfl, trivial⟩
  clear ek10
  refine sat_ite (fun q_11 => ?_) (fun q_11 => ?_)
  · exact hk10 1 I6 (lit_in rfl) hRI6 ⟨rfl, trivial⟩
  · exact hk10 0 I6 (lit_in rfl) hRI6 ⟨rfl, trivial⟩
theorem ok_X_send_6 {Ib : IMem} (fu : Nat) (k_62 : IMem → Res) (o0 : Nat) (hfu : 5000000000 < fu) {Q_ : Int → IMem → Prop} (hk_62 : ∀ (I9 : IMem), GX o0 I9 → ((∀ q j, ¬ (q = o0 + 9 ∨ q = o0 + 11 ∨ (q = o0 ∧ j = 30) ∨ (q = o0 ∧ j = 31) ∨ (q = o0 ∧ j = 33) ∨ (q = o0 ∧ j = 34)) → I9 q j = Ib q j) ∧ (FS o0 I9)) → sat (k_62 I9) Q_) (hret : ∀ v I, inr v → GX o0 I → ((∀ q j, ¬ (q = o0 + 9 ∨ q = o0 + 11 ∨ (q = o0 ∧ j = 30) ∨ (q = o0 ∧ j = 31) ∨ (q = o0 ∧ j = 33) ∨ (q = o0 ∧ j = 34)) → I q j = Ib q j) ∧ (False)) → sat (zr v I) Q_) : ∀ (m : Nat) (w1 : Int) (I0 : IMem), inr w1 → GX o0 I0 → ((∀ q j, ¬ (q = o0 + 9 ∨ q = o0 + 11 ∨ (q = o0 ∧ j = 30) ∨ (q = o0 ∧ j = 31) ∨ (q = o0 ∧ j = 33) ∨ (q = o0 ∧ j = 34)) → I0 q j = Ib q j) ∧ (0 ≤ w1 ∧ FS o0 I0 ∧ I0 o0 31 = w1)) → (8 - w1).toNat < m → sat (f_X_send_6 fu k_62 o0 m w1 I0) Q_ := by
  intro m
  induction m with
  | zero => intro w1 I0 _ _ _ h0; exact absurd h0 (Nat.not_lt_zero _)
  | succ m hR_ =>
    intro w1 I0 ⟨aw1, bw1⟩ hRI0 hinv hmeas
    have fI0 := hinv.1; replace hinv := hinv.2
    show sat (fb_X_send_6 fu k_62 o0 (f_X_send_6 fu k_62 o0 m) w1 I0) Q_
    unfold fb_X_send_6
    have hgt0 := gx_t hRI0
    have hgh : w1 < 8 → 0 ≤ I0 (o0 + 15) w1.toNat ∧ I0 (o0 + 15) w1.toNat < 240 := fun q => (gx_h hRI0 w1.toNat (by omega)).1
    have ⟨r_1a, r_1b⟩ : -2147483648 ≤ I0 o0 35 ∧ I0 o0 35 < 2147483648 := hRI0.1 o0 35
    have r_1g := gx_t hRI0
    refine sat_ite (fun q_2 => ?_) (fun q_2 => ?_)
    · refine sat_zg (by first | omega | grind | grind [wr32]) (fun g_3 => ?_)
      refine sat_zg (by first | omega | grind | grind [wr32]) (fun g_4 => ?_)
      refine sat_zg (by first | omega | grind | grind [wr32]) (fun g_5 => ?_)
      have ⟨r_6a, r_6b⟩ : -2147483648 ≤ I0 (o0 + 15) w1.toNat ∧ I0 (o0 + 15) w1.toNat < 2147483648 := hRI0.1 (o0 + 15) w1.toNat
      try have r_6h := gx_h hRI0 w1.toNat (by omega)
      have hgh1 := hgh (by omega)
      refine sat_zl (wr32_in _) (fun x4 hx4 ax4 bx4 => ?_)
      try simp (disch := omega) only [wr32_i2, wdiv_i2, wrem_i2] at hx4
      refine sat_zg (by first | omega | grind | grind [wr32]) (fun g_7 => ?_)
      have ⟨r_10a, r_10b⟩ : -2147483648 ≤ I0 (o0 + 1) x4.toNat ∧ I0 (o0 + 1) x4.toNat < 2147483648 := hRI0.1 (o0 + 1) x4.toNat
      try have r_10many := gx_many hRI0 x4.toNat (by omega) (by omega)
      try have r_10seen := gx_seen hRI0 x4.toNat (by omega) (by omega)
      try have r_10part := gx_part hRI0 x4.toNat (by omega) (by omega)
      try have r_10rows := gx_rows hRI0 x4.toNat (by omega) (by omega) (by omega)
      refine sat_zb (ok_X_takes fu o0 (wdiv (I0 (o0 + 15) w1.toNat) 40) (wrem (I0 (o0 + 15) w1.toNat) 40) (I0 (o0 + 1) x4.toNat) I0 hfu hRI0 (wdiv_in _ _) (wrem_in _ _) (hRI0.1 (o0 + 1) x4.toNat) (by first | omega | (simp (disch := omega) only [wr32_i2, wdiv_i2, wrem_i2]; omega) | grind | grind [wr32])) (fun u_8 I6 c_9 ⟨⟨au_8, bu_8⟩, hRI6, pI6⟩ => ?_)
      try simp (disch := omega) only [wr32_i2, wdiv_i2, wrem_i2] at pI6
      have fI6 : ∀ q j, ¬ (q = o0 + 9 ∨ q = o0 + 11 ∨ (q = o0 ∧ j = 30) ∨ (q = o0 ∧ j = 31) ∨ (q = o0 ∧ j = 33) ∨ (q = o0 ∧ j = 34)) → I6 q j = I0 q j := fc_X_takes (fun q j => q = o0 + 9 ∨ q = o0 + 11 ∨ (q = o0 ∧ j = 30) ∨ (q = o0 ∧ j = 31) ∨ (q = o0 ∧ j = 33) ∨ (q = o0 ∧ j = 34)) fu o0 (wdiv (I0 (o0 + 15) w1.toNat) 40) (wrem (I0 (o0 + 15) w1.toNat) 40) (I0 (o0 + 1) x4.toNat) I0 (fun _ => by simp) (fun _ => by simp) (by simp) (by simp) (by simp) (by simp) c_9
      have e40 : 40 * (I0 (o0 + 15) w1.toNat / 40) + I0 (o0 + 15) w1.toNat % 40 = I0 (o0 + 15) w1.toNat := by omega
      rw [e40] at pI6
      have hgr := gx_rows hRI0 x4.toNat (by omega) (by omega) (by omega)
      have hfsI6 : FS o0 I6 := fs_take (x := I0 (o0 + 15) w1.toNat) (v := I0 (o0 + 1) x4.toNat) hinv.2.1 (by omega) hgh1 (by rw [show 141 + 6 * (I0 (o0 + 15) w1.toNat).toNat = x4.toNat by omega]; omega) (fun k => fI6 _ _ (by omega)) pI6.2.2.1 (fun k => fI6 _ _ (by omega)) pI6.2.2.2 pI6.1 (fI6 _ _ (by omega))
      refine sat_zl (wr32_in _) (fun x8 hx8 ax8 bx8 => ?_)
      try simp (disch := omega) only [wr32_i2, wdiv_i2, wrem_i2] at hx8
      exact hR_ x8 I6 ⟨ax8, bx8⟩ hRI6 ⟨(by intro q j hq; grind), ⟨by omega, hfsI6, by omega⟩⟩ (by first | omega | (simp (disch := omega) only [wr32_i2, wdiv_i2, wrem_i2]; omega) | grind | grind [wr32])
    · exact hk_62 I0 hRI0 ⟨(by intro q j hq; grind), hinv.2.1⟩
theorem ok_X_send (fu : Nat) (o0 : Nat) (I0 : IMem) (hfu : 5000000000 < fu) (hRI0 : GX o0 I0) (hc : I0 (o0 + 1) 70 < 2000000000) : sat (f_X_send fu o0 I0) (fun v I => inr v ∧ GX o0 I ∧ (I o0 35 = 0)) := by
  unfold f_X_send
  refine sat_zb (ok_X_begins fu o0 I0 hfu hRI0 ) (fun u_1 I2 c_2 ⟨⟨au_1, bu_1⟩, hRI2, pI2⟩ => ?_)
  have fI2 : ∀ q j, ¬ (q = o0 + 9 ∨ q = o0 + 12 ∨ (q = o0 ∧ j = 30) ∨ (q = o0 ∧ j = 31) ∨ (q = o0 ∧ j = 32) ∨ (q = o0 ∧ j = 33) ∨ (q = o0 ∧ j = 34)) → I2 q j = I0 q j := fc_X_begins (fun q j => q = o0 + 9 ∨ q = o0 + 12 ∨ (q = o0 ∧ j = 30) ∨ (q = o0 ∧ j = 31) ∨ (q = o0 ∧ j = 32) ∨ (q = o0 ∧ j = 33) ∨ (q = o0 ∧ j = 34)) fu o0 I0 (fun _ => by simp) (fun _ => by simp) (by simp) (by simp) (by simp) (by simp) (by simp) c_2
  refine ok_X_send_6 (Ib := I2) fu _ o0 hfu ?_ (fun v I h1 h2 h3 => sat_zr ⟨h1, h2, (by first | exact h3.elim | exact h3.2.elim)⟩) fu 0 I2 (lit_in rfl) hRI2 ⟨(fun _ _ _ => rfl), ⟨by omega, fs_0 hRI2 pI2.1 pI2.2.1 (fun k hk => (pI2.2.2.2 k hk).1), pI2.1⟩⟩ (by first | omega | (simp (disch := omega) only [wr32_i2, wdiv_i2, wrem_i2]; omega) | grind | grind [wr32])
  · intro I9  hRI9 xI9
    have fI9 := xI9.1; replace xI9 := xI9.2
    have hc9 : I9 (o0 + 1) 70 = I0 (o0 + 1) 70 := (fI9 _ _ (by omega)).trans (fI2 _ _ (by omega))
    refine sat_zb (ok_X_goesOff fu o0 I9 hfu hRI9 (by first | omega | (simp (disch := omega) only [wr32_i2, wdiv_i2, wrem_i2]; omega) | grind | grind [wr32]) (by first | omega | (simp (disch := omega) only [wr32_i2, wdiv_i2, wrem_i2]; omega) | grind | grind [wr32])) (fun y10 I11 c_3 ⟨⟨ay10, by10⟩, hRI11, pI11⟩ => ?_)
    have fI11 : ∀ q j, ¬ (q = o0 + 1 ∨ q = o0 + 13 ∨ q = o0 + 14 ∨ (q = o0 ∧ j = 24) ∨ (q = o0 ∧ j = 35)) → I11 q j = I9 q j := fc_X_goesOff (fun q j => q = o0 + 1 ∨ q = o0 + 13 ∨ q = o0 + 14 ∨ (q = o0 ∧ j = 24) ∨ (q = o0 ∧ j = 35)) fu o0 I9 (fun _ => by simp) (fun _ => by simp) (fun _ => by simp) (by simp) (by simp) c_3
    exact sat_zr ⟨⟨ay10, by10⟩, hRI11, (by first | omega | (simp (disch := omega) only [wr32_i2, wdiv_i2, wrem_i2]; omega) | grind | grind [wr32])⟩
theorem ok_X_isOpen (fu : Nat) (o0 : Nat) (a1 : Int) (a2 : Int) (I0 : IMem) (hfu : 5000000000 < fu) (hRI0 : GX o0 I0) (qa1 : inr a1) (qa2 : inr a2) (h0 : 0 ≤ a1 ∧ a1 < 6 ∧ 0 ≤ a2 ∧ a2 < 40) : sat (f_X_isOpen fu o0 a1 a2 I0) (fun v I => inr v ∧ GX o0 I ∧ (I = I0 ∧ ((v = 0 ∨ v = 1) ∧ (v = 1 → I0 (o0 + 9) (40 * a1 + a2).toNat = 0 ∧ I0 (o0 + 12) (40 * a1 + a2).toNat = 0)))) := by
  unfold f_X_isOpen
  obtain ⟨aa1, ba1⟩ := qa1
  obtain ⟨aa2, ba2⟩ := qa2
  refine sat_zl (wr32_in _) (fun x1 hx1 ax1 bx1 => ?_)
  try simp (disch := omega) only [wr32_i2, wdiv_i2, wrem_i2] at hx1
  refine sat_zg (by first | omega | grind | grind [wr32]) (fun g_1 => ?_)
  have ⟨r_2a, r_2b⟩ : -2147483648 ≤ I0 (o0 + 1) x1.toNat ∧ I0 (o0 + 1) x1.toNat < 2147483648 := hRI0.1 (o0 + 1) x1.toNat
  try have r_2many := gx_many hRI0 x1.toNat (by omega) (by omega)
  try have r_2seen := gx_seen hRI0 x1.toNat (by omega) (by omega)
  try have r_2part := gx_part hRI0 x1.toNat (by omega) (by omega)
  try have r_2rows := gx_rows hRI0 x1.toNat (by omega) (by omega) (by omega)
  refine sat_ite (fun q_3 => ?_) (fun q_3 => ?_)
  · refine sat_zl (wr32_in _) (fun x2 hx2 ax2 bx2 => ?_)
    try simp (disch := omega) only [wr32_i2, wdiv_i2, wrem_i2] at hx2
    refine sat_zg (by first | omega | grind | grind [wr32]) (fun g_4 => ?_)
    have ⟨r_5a, r_5b⟩ : -2147483648 ≤ I0 (o0 + 9) x2.toNat ∧ I0 (o0 + 9) x2.toNat < 2147483648 := hRI0.1 (o0 + 9) x2.toNat
    refine sat_ite (fun q_6 => ?_) (fun q_6 => ?_)
    · refine sat_zl (wr32_in _) (fun x3 hx3 ax3 bx3 => ?_)
      try simp (disch := omega) only [wr32_i2, wdiv_i2, wrem_i2] at hx3
      refine sat_zg (by first | omega | grind | grind [wr32]) (fun g_7 => ?_)
      have ⟨r_8a, r_8b⟩ : -2147483648 ≤ I0 (o0 + 12) x3.toNat ∧ I0 (o0 + 12) x3.toNat < 2147483648 := hRI0.1 (o0 + 12) x3.toNat
      refine sat_ite (fun q_9 => ?_) (fun q_9 => ?_)
      · exact sat_zr ⟨(lit_in rfl), hRI0, ⟨rfl, (by first | omega | (simp (disch := omega) only [wr32_i2, wdiv_i2, wrem_i2]; omega) | grind | grind [wr32])⟩⟩
      · exact sat_zr ⟨(lit_in rfl), hRI0, ⟨rfl, (by first | omega | (simp (disch := omega) only [wr32_i2, wdiv_i2, wrem_i2]; omega) | grind | grind [wr32])⟩⟩
    · exact sat_zr ⟨(lit_in rfl), hRI0, ⟨rfl, (by first | omega | (simp (disch := omega) only [wr32_i2, wdiv_i2, wrem_i2]; omega) | grind | grind [wr32])⟩⟩
  · exact sat_zr ⟨(lit_in rfl), hRI0, ⟨rfl, (by first | omega | (simp (disch := omega) only [wr32_i2, wdiv_i2, wrem_i2]; omega) | grind | grind [wr32])⟩⟩
