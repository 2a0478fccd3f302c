/-! the fewest, by hand -/
theorem ok_gXN (fu : Nat) (hfu : 5000000000 < fu) : ∀ n : Nat, (∀ (o0 : Nat) (I0 : IMem), GX o0 I0 → NQ o0 I0 → 10 * nsum I0 o0 + 1 ≤ n → sat ((gXN fu n).1 o0 I0) (fun v I => inr v ∧ GX o0 I ∧ ∀ q j, q ≠ o0 + 18 → I q j = I0 q j)) ∧ (∀ (o0 : Nat) (a1 a2 : Int) (I0 : IMem), GX o0 I0 → inr a1 → inr a2 → NQ o0 I0 → (0 ≤ a1 ∧ a1 ≤ 8) → 10 * nsum I0 o0 + a1 + 2 ≤ n → sat ((gXN fu n).2 o0 a1 a2 I0) (fun v I => inr v ∧ GX o0 I ∧ ∀ q j, q ≠ o0 + 18 → I q j = I0 q j)) := by
  intro n
  induction n with
  | zero => exact ⟨fun o0 I0 hg hnw hn => absurd hn (by have := nsum_b hg hnw; omega), fun o0 a1 a2 I0 hg _ _ hnw ha hn => absurd hn (by have := nsum_b hg hnw; omega)⟩
  | succ n hR =>
    refine ⟨?_, ?_⟩
    · intro o0 I0 hRI0 hnw hn
      show sat (fb_X_needs fu (gXN fu n) o0 I0) _
      unfold fb_X_needs
      refine sat_zb (ok_X_greatest fu o0 I0 hfu hRI0) (fun y1 I2 c1 ⟨⟨ay1, by1⟩, _, pI2⟩ => ?_)
      have eI2 := pI2.1.symm; replace pI2 := pI2.2; subst eI2
      refine sat_ite (fun q1 => ?_) (fun q1 => ?_)
      · exact sat_zr ⟨lit_in rfl, hRI0, fun _ _ _ => rfl⟩
      refine sat_zb (ok_X_number0 fu o0 I0 hfu hRI0 hnw) (fun y4 I5 c2 ⟨⟨ay4, by4⟩, _, pI5⟩ => ?_)
      have eI5 := pI5.1.symm; replace pI5 := pI5.2; subst eI5
      refine sat_zg (by omega) (fun g1 => ?_)
      have hb18 := hRI0.1 (o0 + 18) y4.toNat
      refine sat_ite (fun q2 => ?_) (fun q2 => ?_)
      · refine sat_zg (by omega) (fun g2 => ?_)
        refine sat_zg (by omega) (fun g3 => ?_)
        have hk := hnw.1 y1.toNat (by omega) (by omega)
        have hgt := pI2.2.2 q1
        refine sat_zwXn (c := 19) hRI0 (wr32_in _) (by decide) (Or.inl (by decide)) (fun I7 eI7 hRI7 => ?_)
        have hw : wr32 (I0 (o0 + 19) y1.toNat - 1) = I0 (o0 + 19) y1.toNat - 1 := wr32_i2 (by omega) (by omega)
        have hd := nw_set (I1 := I7) (v := I0 (o0 + 19) y1.toNat - 1) hnw (g := y1.toNat) (by omega) (by omega) (fun k => by rw [eI7, hw]; by_cases q : k = y1.toNat; (rw [if_pos ⟨rfl, q⟩, if_pos q]); (rw [if_neg (fun z => q z.2), if_neg q])) (fun j => by rw [eI7, if_neg (by omega)]) (fun j => by rw [eI7, if_neg (by omega)])
        refine sat_zb (hR.2 o0 y1 _ I7 hRI7 ⟨ay1, by1⟩ (wr32_in _) hd.1 (by omega) (by have h := hd.2; omega)) (fun y8 I9 c3 ⟨⟨ay8, by8⟩, hRI9, pI9⟩ => ?_)
        refine sat_zl (wr32_in _) (fun x11 hx11 ax11 bx11 => ?_)
        refine sat_zg (by omega) (fun g4 => ?_)
        refine sat_zg (by omega) (fun g5 => ?_)
        refine sat_zwXn (c := 19) hRI9 (wr32_in _) (by decide) (Or.inl (by decide)) (fun I12 eI12 hRI12 => ?_)
        refine sat_zg (by omega) (fun g6 => ?_)
        refine sat_zwXn (c := 18) hRI12 ⟨ax11, bx11⟩ (by decide) (Or.inl (by decide)) (fun I13 eI13 hRI13 => ?_)
        exact sat_zr ⟨⟨ax11, bx11⟩, hRI13, fun q j hq => by rw [eI13, if_neg (by omega)]; exact nw_back eI7 pI9 eI12 (by omega) q j hq⟩
      · refine sat_zg (by omega) (fun g2 => ?_)
        exact sat_zr ⟨hb18, hRI0, fun _ _ _ => rfl⟩
    · intro o0 a1 a2 I0 hRI0 ⟨aa1, ba1⟩ qa2 hnw ha hn
      show sat (fb_X_fewestBehind fu (gXN fu n) o0 a1 a2 I0) _
      unfold fb_X_fewestBehind
      refine sat_ite (fun q1 => ?_) (fun q1 => ?_)
      · refine sat_zb (hR.1 o0 I0 hRI0 hnw (by omega)) (fun y9 I10 c1 ⟨q9, hRI10, pI10⟩ => ?_)
        exact sat_zr ⟨q9, hRI10, pI10⟩
      have hw1 : wr32 (a1 - 1) = a1 - 1 := wr32_i2 (by omega) (by omega)
      refine sat_zb (hR.2 o0 (wr32 (a1 - 1)) a2 I0 hRI0 (wr32_in _) qa2 hnw (by omega) (by omega)) (fun y1 I2 c1 ⟨qy1, hRI2, pI2⟩ => ?_)
      have hnw2 : NQ o0 I2 := nw_fr hnw (fun j => pI2 _ _ (by omega)) (fun j => pI2 _ _ (by omega)) (fun j => pI2 _ _ (by omega))
      have hs2 : nsum I2 o0 = nsum I0 o0 := nsum_fr (fun j => pI2 _ _ (by omega))
      refine sat_zg (by omega) (fun g1 => ?_)
      have hk := hnw2.1 a1.toNat (by omega) (by omega)
      refine sat_ite (fun q2 => ?_) (fun q2 => ?_)
      · exact sat_zr ⟨qy1, hRI2, pI2⟩
      refine sat_ite (fun q3 => ?_) (fun q3 => ?_)
      · exact sat_zr ⟨qy1, hRI2, pI2⟩
      refine sat_zg (by omega) (fun g2 => ?_)
      refine sat_zg (by omega) (fun g3 => ?_)
      refine sat_zwXn (c := 19) hRI2 (wr32_in _) (by decide) (Or.inl (by decide)) (fun I4 eI4 hRI4 => ?_)
      have hw : wr32 (I2 (o0 + 19) a1.toNat - 1) = I2 (o0 + 19) a1.toNat - 1 := wr32_i2 (by omega) (by omega)
      have hd := nw_set (I1 := I4) (v := I2 (o0 + 19) a1.toNat - 1) hnw2 (g := a1.toNat) (by omega) (by omega) (fun k => by rw [eI4, hw]; by_cases q : k = a1.toNat; (rw [if_pos ⟨rfl, q⟩, if_pos q]); (rw [if_neg (fun z => q z.2), if_neg q])) (fun j => by rw [eI4, if_neg (by omega)]) (fun j => by rw [eI4, if_neg (by omega)])
      refine sat_zb (hR.2 o0 a1 _ I4 hRI4 ⟨aa1, ba1⟩ (wr32_in _) hd.1 ha (by have h := hd.2; omega)) (fun y5 I6 c3 ⟨qy5, hRI6, pI6⟩ => ?_)
      refine sat_zg (by omega) (fun g4 => ?_)
      refine sat_zg (by omega) (fun g5 => ?_)
      refine sat_zwXn (c := 19) hRI6 (wr32_in _) (by decide) (Or.inl (by decide)) (fun I8 eI8 hRI8 => ?_)
      have hb : ∀ q j, q ≠ o0 + 18 → I8 q j = I0 q j := fun q j hq => (nw_back eI4 pI6 eI8 (by omega) q j hq).trans (pI2 q j hq)
      refine sat_ite (fun q4 => ?_) (fun q4 => ?_)
      · exact sat_zr ⟨qy5, hRI8, hb⟩
      · exact sat_zr ⟨qy1, hRI8, hb⟩
theorem ok_X_needs (fu : Nat) (o0 : Nat) (I0 : IMem) (hfu : 5000000000 < fu) (hRI0 : GX o0 I0) (hnw : NQ o0 I0) : sat (f_X_needs fu o0 I0) (fun v I => inr v ∧ GX o0 I ∧ ∀ q j, q ≠ o0 + 18 → I q j = I0 q j) := (ok_gXN fu hfu 300).1 o0 I0 hRI0 hnw (by have := nsum_b hRI0 hnw; omega)
