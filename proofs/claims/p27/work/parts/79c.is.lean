/-! the parser: is, by hand -/
theorem ok_is24 (fu : Nat) (o0 s1 : Nat) (hfu : 5000000000 < fu) (hs : s1 < 18) (I0 : IMem) (hRI0 : GX o0 I0) (h0 : 0 ≤ I0 o0 15 ∧ I0 o0 15 ≤ I0 o0 13 ∧ I0 o0 13 ≤ 400) : ∀ (m : Nat) (w2 w3 : Int), inr w2 → inr w3 → (w2 = 0 ∨ (w2 = 1 ∧ I0 o0 13 - I0 o0 15 = (lenJ.getD s1 0 : Nat))) → 0 ≤ w3 → ((lenJ.getD s1 0 : Nat) - w3).toNat < m → sat (f_X_is_24 fu o0 s1 m w2 w3 I0) (fun v I => inr v ∧ GX o0 I ∧ I = I0 ∧ (v = 0 ∨ v = 1)) := by
  intro m
  induction m with
  | zero => intro w2 w3 _ _ _ _ h; exact absurd h (Nat.not_lt_zero _)
  | succ m ih =>
    intro w2 w3 qw2 ⟨aw3, bw3⟩ hw h3 hm
    show sat (fb_X_is_24 fu o0 s1 (f_X_is_24 fu o0 s1 m) w2 w3 I0) _
    unfold fb_X_is_24
    refine sat_zb (ok_JS_length fu s1 I0 hfu hRI0.1 hs) (fun y7 I8 c1 ⟨⟨ay7, by7⟩, _, pI8⟩ => ?_)
    have eI8 := pI8.1.symm; replace pI8 := pI8.2; subst eI8
    have hw01 : w2 = 0 ∨ w2 = 1 := hw.elim Or.inl (fun h => Or.inr h.1)
    refine sat_ite (fun q1 => ?_) (fun q1 => ?_)
    · refine sat_ite (fun q2 => ?_) (fun q2 => ?_)
      · exact sat_zg hw01 (fun _ => sat_zr ⟨qw2, hRI0, rfl, hw01⟩)
      · have hl := (hw.resolve_left q2).2
        refine sat_zl (wr32_in _) (fun x10 hx10 ax10 bx10 => ?_)
        rw [wr32_i2 (by omega) (by omega)] at hx10
        refine sat_zg (by omega) (fun _ => ?_)
        refine sat_zb (ok_JS_charAt fu s1 w3 I0 hfu hRI0.1 hs ⟨aw3, bw3⟩ (by omega)) (fun y11 I12 c2 ⟨⟨ay11, by11⟩, _, pI12⟩ => ?_)
        have eI12 := pI12.1.symm; subst eI12
        refine sat_zj (fun k14 ek14 => ?_)
        have hk14 : ∀ x16 : Int, inr x16 → (x16 = 0 ∨ x16 = 1) → sat (k14 x16 I0) (fun v I => inr v ∧ GX o0 I ∧ I = I0 ∧ (v = 0 ∨ v = 1)) := by
          intro x16 qx hx
          subst ek14
          refine sat_zl (wr32_in _) (fun x17 hx17 ax17 bx17 => ?_)
          rw [wr32_i2 (by omega) (by omega)] at hx17
          exact ih x16 x17 qx ⟨ax17, bx17⟩ (hx.elim Or.inl (fun h => Or.inr ⟨h, hl⟩)) (by omega) (by omega)
        clear ek14
        exact sat_ite (fun _ => hk14 1 (lit_in rfl) (Or.inr rfl)) (fun _ => hk14 0 (lit_in rfl) (Or.inl rfl))
    · exact sat_zg hw01 (fun _ => sat_zr ⟨qw2, hRI0, rfl, hw01⟩)
theorem lenJ_le (s : Nat) (h : s < 18) : lenJ.getD s 0 < 1000 := by
  have : ∀ s, s < 18 → lenJ.getD s 0 < 1000 := by decide +kernel
  exact this s h
theorem ok_X_is (fu : Nat) (o0 : Nat) (s1 : Nat) (I0 : IMem) (hfu : 5000000000 < fu) (hRI0 : GX o0 I0) (hs : s1 < 18) (h0 : 0 ≤ I0 o0 15 ∧ I0 o0 15 ≤ I0 o0 13 ∧ I0 o0 13 ≤ 400) : sat (f_X_is fu o0 s1 I0) (fun v I => inr v ∧ GX o0 I ∧ I = I0 ∧ (v = 0 ∨ v = 1)) := by
  unfold f_X_is
  have hl := lenJ_le s1 hs
  refine sat_zb (ok_JS_length fu s1 I0 hfu hRI0.1 hs) (fun y1 I2 c1 ⟨⟨ay1, by1⟩, _, pI2⟩ => ?_)
  have eI2 := pI2.1.symm; replace pI2 := pI2.2; subst eI2
  refine sat_zj (fun k4 ek4 => ?_)
  subst ek4
  refine sat_ite (fun q => ?_) (fun q => ?_)
  · rw [wr32_i2 (by omega) (by omega)] at q
    exact ok_is24 fu o0 s1 hfu hs I0 hRI0 h0 fu 1 0 (lit_in rfl) (lit_in rfl) (Or.inr ⟨rfl, by omega⟩) (Int.le_refl _) (by omega)
  · exact ok_is24 fu o0 s1 hfu hs I0 hRI0 h0 fu 0 0 (lit_in rfl) (lit_in rfl) (Or.inl rfl) (Int.le_refl _) (by omega)
