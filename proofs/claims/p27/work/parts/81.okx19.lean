/-! safety of the reference -/
theorem ok_X_bad (fu : Nat) (o0 : Nat) (a1 : Int) (I0 : IMem) (hfu : 5000000000 < fu) (hRI0 : GX o0 I0) (qa1 : inr a1) : sat (f_X_bad fu o0 a1 I0) (fun v I => inr v ∧ GX o0 I ∧ (v = 0)) := by
  unfold f_X_bad
  obtain ⟨aa1, ba1⟩ := qa1
  refine sat_zwX0 hRI0 ⟨aa1, ba1⟩ (by first | omega | (simp (disch := omega) only [wr32_i2, wdiv_i2, wrem_i2]; omega) | grind | grind [wr32]) (fun I1 eI1 hRI1 => ?_)
  have ⟨r_1a, r_1b⟩ : -2147483648 ≤ I1 o0 15 ∧ I1 o0 15 < 2147483648 := hRI1.1 o0 15
  refine sat_zwX0 hRI1 (hRI1.1 o0 15) (by first | omega | (simp (disch := omega) only [wr32_i2, wdiv_i2, wrem_i2]; omega) | grind | grind [wr32]) (fun I2 eI2 hRI2 => ?_)
  exact sat_zr ⟨(lit_in rfl), hRI2, (by first | omega | (simp (disch := omega) only [wr32_i2, wdiv_i2, wrem_i2]; omega) | grind | grind [wr32])⟩
