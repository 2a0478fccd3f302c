/-! the parser's pieces, by hand -/
theorem ok_nx (fu : Nat) (o0 : Nat) (I0 : IMem) (hfu : 5000000000 < fu) (hRI0 : GX o0 I0) (h : TK o0 I0) : sat (f_X_next0 fu o0 I0) (fun v I => inr v ∧ GX o0 I ∧ TK o0 I ∧ I0 o0 13 ≤ I o0 15 ∧ ∀ q j, ¬ (q = o0 ∧ (j = 13 ∨ j = 14 ∨ j = 15 ∨ j = 16)) → I q j = I0 q j) := by
  obtain ⟨v, I, hs, qv, hI, p⟩ := ok_X_next0 fu o0 I0 hfu hRI0 ⟨by have := h.1; have := h.2.1; omega, h.2.2.1⟩
  have hf := fc_X_next0 (fun q j => q = o0 ∧ (j = 13 ∨ j = 14 ∨ j = 15 ∨ j = 16)) fu o0 I0 (by simp) (by simp) (by simp) (by simp) hs
  exact ⟨v, I, hs, qv, hI, ⟨p.1, p.2.1, p.2.2.1, p.2.2.2.1⟩, p.2.2.2.2, hf⟩
/-- steps no more than the token's place -/
def PI (o : Nat) (I : IMem) : Prop := TK o I ∧ 0 ≤ I o 11 ∧ I o 11 ≤ I o 15
/-- what a part of the parser that answers 1 has laid -/
def UP (o : Nat) (I0 : IMem) (v : Int) (I : IMem) : Prop := inr v ∧ GX o I ∧ (v = 0 ∨ v = 1) ∧ (v = 1 → TK o I ∧ RL o 0 0 1 I0 I ∧ I o 20 = I0 o 20)
theorem pi_rl {o : Nat} {e a b : Int} {I0 I : IMem} (h : PI o I0) (he : 0 ≤ e) (ht : TK o I) (hr : RL o e a b I0 I) : PI o I := by
  obtain ⟨_, a1, a2⟩ := h
  obtain ⟨b1, b2, b3, b4, _⟩ := hr
  exact ⟨ht, by omega, by omega⟩
theorem ok_X_unit (fu : Nat) (o0 : Nat) (I0 : IMem) (hfu : 5000000000 < fu) (hRI0 : GX o0 I0) (h : PI o0 I0) : sat (f_X_unit fu o0 I0) (UP o0 I0) := by
  unfold f_X_unit
  have hgt := gx_t hRI0
  obtain ⟨⟨t1, t2, t3, t4⟩, h1, h2⟩ := h
  refine sat_zb (ok_X_isIn fu (I0 o0 14) 41 51 I0 hfu hRI0.1 (hRI0.1 _ _) (lit_in rfl) (lit_in rfl)) (fun y1 I2 c1 ⟨⟨ay1, by1⟩, _, pI2⟩ => ?_)
  have eI2 := pI2.1.symm; replace pI2 := pI2.2; subst eI2
  refine sat_zj (fun k4 ek4 => ?_)
  have hk4 : I0 o0 14 ≠ 0 → (y1 ≠ 0 → 41 ≤ I0 o0 14 ∧ I0 o0 14 ≤ 51) → sat (k4 I0) (UP o0 I0) := by
    intro hne hy
    subst ek4
    refine sat_zj (fun k6 ek6 => ?_)
    have hk6 : ∀ x8, inr x8 → (0 ≤ x8 ∧ x8 < 12) → sat (k6 x8 I0) (UP o0 I0) := by
      intro x8 qx hx
      subst ek6
      refine sat_zb (ok_X_lay fu o0 x8 _ I0 hRI0 qx (hRI0.1 _ _) (by have := t4 hne; omega)) (fun u I10 c2 ⟨_, hRI10, p10, l10, f10⟩ => ?_)
      have g : ∀ j, j ≠ 11 → I10 o0 j = I0 o0 j := fun j hj => f10 _ _ (by omega) (by omega)
      refine sat_zb (ok_nx fu o0 I10 hfu hRI10 ⟨by rw [g 15 (by decide)]; exact t1, by rw [g 15 (by decide), g 13 (by decide)]; exact t2, by rw [g 13 (by decide), g 12 (by decide)]; exact t3, by rw [g 14 (by decide), g 15 (by decide), g 13 (by decide)]; exact t4⟩) (fun u2 I13 c3 ⟨_, hRI13, tk13, m13, f13⟩ => ?_)
      refine sat_zr ⟨lit_in rfl, hRI13, Or.inr rfl, fun _ => ⟨tk13, ?_, ?_⟩⟩
      · rw [g 13 (by decide)] at m13
        have := t4 hne
        exact rl_lay (s := x8) (v := I0 o0 16) (by rw [f13 _ _ (by omega)]; exact p10) (by omega) (by omega) (fun j => by rw [f13 _ _ (by omega)]; exact l10 j) (st_unit hx)
      · rw [f13 _ _ (by omega), f10 _ _ (by omega) (by omega)]
    clear ek6
    refine sat_ite (fun q => ?_) (fun q => ?_)
    · exact hk6 0 (lit_in rfl) (by decide)
    · have := hy q
      exact hk6 _ (wr32_in _) (by rw [wr32_i2 (by omega) (by omega)]; omega)
  clear ek4
  have hy : y1 ≠ 0 → 41 ≤ I0 o0 14 ∧ I0 o0 14 ≤ 51 := fun q => pI2.2.1 (by have := pI2.1; omega)
  refine sat_ite (fun q => ?_) (fun q => ?_)
  · exact hk4 (by omega) hy
  · refine sat_ite (fun q2 => ?_) (fun q2 => ?_)
    · refine sat_zb (ok_X_bad fu o0 1 I0 hfu hRI0 (lit_in rfl)) (fun y15 I16 c4 ⟨q15, hRI16, p16⟩ => ?_)
      exact sat_zg (Or.inl p16) (fun _ => sat_zr ⟨q15, hRI16, Or.inl p16, fun z => by omega⟩)
    · exact hk4 (by have := hy q2; omega) hy
