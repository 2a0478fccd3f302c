/-! safety of the reference -/
theorem ok_X_till (fu : Nat) (o0 : Nat) (a1 : Int) (a2 : Int) (I0 : IMem) (hfu : 5000000000 < fu) (hRI0 : GX o0 I0) (qa1 : inr a1) (qa2 : inr a2) (hc : I0 (o0 + 1) 70 < 1900000000) : sat (f_X_till fu o0 a1 a2 I0) (fun v I => inr v ∧ GX o0 I ∧ (SA o0 I0 I)) := by
  unfold f_X_till
  obtain ⟨aa1, ba1⟩ := qa1
  obtain ⟨aa2, ba2⟩ := qa2
  refine sat_zb (ok_X_isThere fu o0 a1 a2 I0 hfu hRI0 ⟨aa1, ba1⟩ ⟨aa2, ba2⟩) (fun y1 I2 c_1 ⟨⟨ay1, by1⟩, _, pI2⟩ => ?_)
  have eI2 := pI2.1.symm; replace pI2 := pI2.2; subst eI2
  refine sat_ite (fun q_2 => ?_) (fun q_2 => ?_)
  · exact sat_zr ⟨(lit_in rfl), hRI0, (by first | exact sa_so pI8 hcb pI14 | exact sa_rfl)⟩
  · refine sat_zb (ok_X_of fu o0 a1 a2 0 I0 hfu hRI0 ⟨aa1, ba1⟩ ⟨aa2, ba2⟩ (lit_in rfl) (by first | omega | (simp (disch := omega) only [wr32_i2, wdiv_i2, wrem_i2]; omega) | grind | grind [wr32])) (fun y4 I5 c_3 ⟨⟨ay4, by4⟩, _, pI5⟩ => ?_)
    have eI5 := pI5.1.symm; replace pI5 := pI5.2; subst eI5
    refine sat_zb (ok_X_setsOut fu o0 I0 hfu hRI0 ) (fun u_4 I8 c_5 ⟨⟨au_4, bu_4⟩, hRI8, pI8⟩ => ?_)
    have fI8 : ∀ q j, ¬ (q = o0 + 3 ∨ q = o0 + 23 ∨ q = o0 + 24 ∨ (q = o0 ∧ j = 50)) → I8 q j = I0 q j := fc_X_setsOut (fun q j => q = o0 + 3 ∨ q = o0 + 23 ∨ q = o0 + 24 ∨ (q = o0 ∧ j = 50)) fu o0 I0 (fun _ => by simp) (fun _ => by simp) (fun _ => by simp) (by simp) c_5
    have hc2 : I8 (o0 + 1) 70 = I0 (o0 + 1) 70 := pI8.2.2.2.2 _ _ (by omega) (by omega) (by omega) (by omega)
    refine sat_zb (ok_X_sitsAfter fu o0 y4 I8 hfu hRI8 ⟨ay4, by4⟩ (by first | omega | (simp (disch := omega) only [wr32_i2, wdiv_i2, wrem_i2]; omega) | grind | grind [wr32])) (fun y10 I11 c_6 ⟨⟨ay10, by10⟩, hRI11, pI11⟩ => ?_)
    have fI11 : ∀ q j, ¬ (q = o0 + 1 ∨ q = o0 + 7 ∨ q = o0 + 9 ∨ q = o0 + 10 ∨ q = o0 + 11 ∨ q = o0 + 12 ∨ q = o0 + 13 ∨ q = o0 + 14 ∨ (q = o0 ∧ j = 23) ∨ (q = o0 ∧ j = 24) ∨ (q = o0 ∧ j = 30) ∨ (q = o0 ∧ j = 31) ∨ (q = o0 ∧ j = 32) ∨ (q = o0 ∧ j = 33) ∨ (q = o0 ∧ j = 34) ∨ (q = o0 ∧ j = 35) ∨ (q = o0 + 8 ∧ j = 1) ∨ (q = o0 + 8 ∧ j = 2) ∨ (q = o0 + 8 ∧ j = 3) ∨ (q = o0 + 8 ∧ j = 4) ∨ (q = o0 + 8 ∧ j = 5) ∨ (q = o0 + 8 ∧ j = 6) ∨ (q = o0 + 8 ∧ j = 7) ∨ (q = o0 + 8 ∧ j = 8) ∨ (q = o0 + 8 ∧ j = 9)) → I11 q j = I8 q j := fc_X_sitsAfter (fun q j => q = o0 + 1 ∨ q = o0 + 7 ∨ q = o0 + 9 ∨ q = o0 + 10 ∨ q = o0 + 11 ∨ q = o0 + 12 ∨ q = o0 + 13 ∨ q = o0 + 14 ∨ (q = o0 ∧ j = 23) ∨ (q = o0 ∧ j = 24) ∨ (q = o0 ∧ j = 30) ∨ (q = o0 ∧ j = 31) ∨ (q = o0 ∧ j = 32) ∨ (q = o0 ∧ j = 33) ∨ (q = o0 ∧ j = 34) ∨ (q = o0 ∧ j = 35) ∨ (q = o0 + 8 ∧ j = 1) ∨ (q = o0 + 8 ∧ j = 2) ∨ (q = o0 + 8 ∧ j = 3) ∨ (q = o0 + 8 ∧ j = 4) ∨ (q = o0 + 8 ∧ j = 5) ∨ (q = o0 + 8 ∧ j = 6) ∨ (q = o0 + 8 ∧ j = 7) ∨ (q = o0 + 8 ∧ j = 8) ∨ (q = o0 + 8 ∧ j = 9)) fu o0 y4 I8 (fun _ => by simp) (fun _ => by simp) (fun _ => by simp) (fun _ => by simp) (fun _ => by simp) (fun _ => by simp) (fun _ => by simp) (fun _ => by simp) (by simp) (by simp) (by simp) (by simp) (by simp) (by simp) (by simp) (by simp) (by simp) (by simp) (by simp) (by simp) (by simp) (by simp) (by simp) (by simp) (by simp) c_6
    have hcb : ∀ q j, (q = o0 + 3 ∨ q = o0 + 23 ∨ q = o0 + 24 ∨ (q = o0 ∧ j = 50)) → I11 q j = I8 q j := fun q j h => fI11 q j (by omega)
    have hwx := wx_so hRI0 pI8 hcb
    refine sat_zb (ok_X_comesBack fu o0 I11 hfu hRI11 (by first | omega | (simp (disch := omega) only [wr32_i2, wdiv_i2, wrem_i2]; omega) | grind | grind [wr32])) (fun u_7 I14 c_8 ⟨⟨au_7, bu_7⟩, hRI14, pI14⟩ => ?_)
    have fI14 : ∀ q j, ¬ (q = o0 + 1 ∨ q = o0 + 13 ∨ q = o0 + 15 ∨ (q = o0 ∧ j = 35)) → I14 q j = I11 q j := fc_X_comesBack (fun q j => q = o0 + 1 ∨ q = o0 + 13 ∨ q = o0 + 15 ∨ (q = o0 ∧ j = 35)) fu o0 I11 (fun _ => by simp) (fun _ => by simp) (fun _ => by simp) (by simp) c_8
    exact sat_zr ⟨⟨ay10, by10⟩, hRI14, (by first | exact sa_so pI8 hcb pI14 | exact sa_rfl)⟩
